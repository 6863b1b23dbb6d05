/-! ===== play: what is in a block ===== -/
def KOK (B : Nat → Nat) (K p e : Nat) : Prop := (K = 0 → ∃ c, c ≤ 16 ∧ B (p + 1) = c ∧ e = p + 2 + 5 * c ∧ ∀ k, k < c → B (p + 2 + 5 * k) ≤ B (p + 4 + 5 * k) ∧ B (p + 3 + 5 * k) ≤ B (p + 5 + 5 * k) ∧ B (p + 6 + 5 * k) ≤ 1) ∧ (K = 1 → p + 2 ≤ e) ∧ (K = 2 → B (p + 1) ≤ 20 ∧ ∃ v, e = p + 5 + 2 * v) ∧ (K = 3 → e = p + 5 ∧ B (p + 1) ≤ 20 ∧ B (p + 4) ≤ 8)
/-- a block is read without fault -/
def OB (B : Nat → Nat) (K p e : Nat) (σ τ σ' τ' : Mem) : Prop := ∃ P', p < e ∧ 0 < B p ∧ B p ≤ mxK K ∧ σ (5 + 3 * K) (B p) = 0 ∧ σ' 31 0 = 0 ∧ τ' 0 19 = 0 ∧ σ' 31 4 = nI P' ∧ τ' 0 22 = nI P' ∧ σ' 31 5 = nI e ∧ τ' 0 23 = nI e ∧ P' ≤ e ∧ (∀ z, z ≠ 31 → z ≠ 32 → σ' z = NS σ K p e (B p) z) ∧ (∀ z, z ≠ 0 → z ≠ 14 → τ' z = NU τ K (B p) z) ∧ (∀ j, j ≠ 22 → τ' 0 j = τ 0 j) ∧ (P' = e → KOK B K p e) ∧ σ' 31 1 = σ 31 1
def BR (B : Nat → Nat) (K p e : Nat) (σ0 τ0 σ τ : Mem) (E1 E2 : Option Mem) : Prop := (∃ σ' τ', E1 = some σ' ∧ E2 = some τ' ∧ OB B K p e σ τ σ' τ') ∨ ∃ σ' τ', E1 = some σ' ∧ E2 = some τ' ∧ FO σ0 τ0 σ' τ'
theorem NS_ne {σ : Mem} {K p e x z : Nat} (h : z ≠ 5 + 3 * K) (h2 : z ≠ 6 + 3 * K) (h3 : z ≠ 4 + 3 * K) : NS σ K p e x z = σ z := by
  unfold NS
  rw [stM_ne h3, stM_ne h2, stM_ne h]
theorem NU_ne {τ : Mem} {K x z : Nat} (h : z ≠ 13) : NU τ K x z = τ z := stM_ne h
theorem BS.num {T e p K x : Nat} {σ τ : Mem} (hK : K < 4) (h : BS T e σ τ) : BS T e (NS σ K p e x) (NU τ K x) := by
  obtain ⟨h1, h2, h3, h4, h5, h6⟩ := h
  refine ⟨by rw [NS_ne (by omega) (by omega) (by omega)]; exact h1, by rw [NU_ne (by decide)]; exact h2, by rw [NS_ne (by omega) (by omega) (by omega)]; exact h3, by rw [NU_ne (by decide)]; exact h4, h5, ?_⟩
  exact h6.agr (fun k a b => NS_ne (by omega) (by omega) (by omega)) (NU_ne (by decide))
theorem RC.num {σ0 σ : Mem} {K p e x : Nat} (hK : K < 4) (h : RC σ0 σ) : RC σ0 (NS σ K p e x) := ((h.w (by omega)).w (by omega)).w (by omega)
theorem RM.num {τ0 τ : Mem} {K x : Nat} (h : RM τ0 τ) : RM τ0 (NU τ K x) := h.w (by omega)
theorem OB.mk2 {T e p K P' : Nat} {σ τ : Mem} (hK : K < 4) (h : BS T e σ τ) (h1 : p < e) (h2 : 0 < byN (τ 1) p) (h3 : byN (τ 1) p ≤ mxK K) (h4 : σ (5 + 3 * K) (byN (τ 1) p) = 0) (h5 : P' ≤ e) (h6 : P' = e → KOK (byN (τ 1)) K p e) : OB (byN (τ 1)) K p e σ τ (Sp (NS σ K p e (byN (τ 1) p)) P') (Up (NU τ K (byN (τ 1) p)) P') := by
  obtain ⟨a1, a2, a3, a4, a5, a6⟩ := h.num (p := p) (x := byN (τ 1) p) hK
  exact ⟨P', h1, h2, h3, h4, by rw [Sp_31 (by decide)]; exact a1, by rw [Up_0 (by decide)]; exact a2, Sp_4 _ _, Up_22 _ _, by rw [Sp_31 (by decide)]; exact a3, by rw [Up_0 (by decide)]; exact a4, h5, fun z hz _ => Sp_ne hz, fun z hz _ => Up_ne hz, fun j hj => by rw [Up_0 hj, NU_ne (by decide)], h6, by rw [Sp_31 (by decide), NS_ne (by omega) (by omega) (by omega)]⟩
/-! rows of takes -/
def tksC (n : Nat) : List (Int32 × Int32) → (Mem → Option Mem) → Mem → Option Mem
  | [], k, s => k s
  | q :: l, k, s => bd (f_X4_take n q.1 q.2 s) fun _ s1 => tksC n l k s1
def tksM (n : Nat) : List (Int32 × Int32) → (Mem → Option Mem) → Mem → Option Mem
  | [], k, s => k s
  | q :: l, k, s => bd (f_X11_wants n q.1 q.2 s) fun _ s1 => tksM n l k s1
def nIL (l : List (Nat × Nat)) : List (Int32 × Int32) := l.map fun q => (nI q.1, nI q.2)
theorem tksC_f (n : Nat) (k : Mem → Option Mem) {σ : Mem} (h : ¬ σ 31 0 = 0) : ∀ l, tksC n l k σ = k σ := by
  intro l
  induction l with
  | nil => rfl
  | cons q l ih =>
    show bd (f_X4_take n q.1 q.2 σ) _ = _
    rw [take_f n h, bd_mk]
    exact ih
theorem tksM_f (n : Nat) (k : Mem → Option Mem) {τ : Mem} (h : ¬ τ 0 19 = 0) : ∀ l, tksM n l k τ = k τ := by
  intro l
  induction l with
  | nil => rfl
  | cons q l ih =>
    show bd (f_X11_wants n q.1 q.2 τ) _ = _
    rw [wants_f n h, bd_mk]
    exact ih
theorem tks_b {T e : Nat} {σ τ σ0 τ0 : Mem} (n m : Nat) (k1 k2 : Mem → Option Mem) (h : BS T e σ τ) (hc : RC σ0 σ) (hm : RM τ0 τ) : ∀ (l : List (Nat × Nat)) (p : Nat), p ≤ e → (∀ q ∈ l, q.1 ≤ 255 ∧ q.2 ≤ 255) →
    (p + l.length ≤ e ∧ (∀ i, i < l.length → (l.getD i (0, 0)).1 ≤ byN (τ 1) (p + i) ∧ byN (τ 1) (p + i) ≤ (l.getD i (0, 0)).2) ∧ tksC n (nIL l) k1 (Sp σ p) = k1 (Sp σ (p + l.length)) ∧ tksM m (nIL l) k2 (Up τ p) = k2 (Up τ (p + l.length))) ∨
    ∃ σ' τ', tksC n (nIL l) k1 (Sp σ p) = k1 σ' ∧ tksM m (nIL l) k2 (Up τ p) = k2 τ' ∧ FO σ0 τ0 σ' τ' := by
  intro l
  induction l with
  | nil => exact fun p hp _ => Or.inl ⟨hp, fun i hi => absurd hi (by simp), rfl, rfl⟩
  | cons q l ih =>
    intro p hp hq
    have q1 := hq q (by simp)
    have e1 : tksC n (nIL (q :: l)) k1 (Sp σ p) = bd (f_X4_take n (nI q.1) (nI q.2) (Sp σ p)) fun _ s1 => tksC n (nIL l) k1 s1 := rfl
    have e2 : tksM m (nIL (q :: l)) k2 (Up τ p) = bd (f_X11_wants m (nI q.1) (nI q.2) (Up τ p)) fun _ s1 => tksM m (nIL l) k2 s1 := rfl
    rw [e1, e2]
    rcases take_b n m h hp q1.1 q1.2 with ⟨w1, w2, w3, w4, w5⟩ | ⟨w4, w5⟩
    · rw [w4, w5, bd_mk, bd_mk]
      rcases ih (p + 1) (by omega) (fun q' hq' => hq q' (by simp [hq'])) with ⟨v1, v2, v3, v4⟩ | v
      · left
        have el : (q :: l).length = l.length + 1 := by simp
        refine ⟨by omega, fun i hi => ?_, by rw [v3]; congr 2; omega, by rw [v4]; congr 2; omega⟩
        rcases i with _ | i
        · exact ⟨w2, w3⟩
        · have := v2 i (by omega)
          rw [show p + (i + 1) = p + 1 + i by omega]
          exact this
      · exact Or.inr v
    · have fo := FS_FO (p := p) hc hm
      rw [w4, w5, bd_mk, bd_mk, tksC_f n k1 fo.c, tksM_f m k2 fo.m]
      exact Or.inr ⟨_, _, rfl, rfl, fo⟩
/-! an actor -/
theorem actor_b {T e p : Nat} {σ τ σ0 τ0 : Mem} (n m : Nat) (h : BS T e σ τ) (hp : p ≤ e) (hy : ∀ x, 0 < x → x ≤ mxK 3 → (σ (5 + 3 * 3) x = 0 ↔ τ 13 (64 * 3 + x) = 0)) (hc : RC σ0 σ) (hm : RM τ0 τ) : BR (byN (τ 1)) 3 p e σ0 τ0 σ τ (f_X4_readActor n (Sp σ p)) (f_X11_judgeBlock m (nI 65) (Up τ p)) := by
  have C : f_X4_readActor n (Sp σ p) = bv (f_X4_takeNumber n (4 + 3 * 3) (Sp σ p)) fun s1 => tksC n (nIL [(0, 20), (0, 255), (0, 255), (0, 8)]) some s1 := rfl
  have M : f_X11_judgeBlock m (nI 65) (Up τ p) = bv (f_X11_names m (nI 3) (nI (mxK 3)) (Up τ p)) fun s1 => tksM m (nIL [(0, 20), (0, 255), (0, 255), (0, 8)]) some s1 := by
    unfold f_X11_judgeBlock
    rw [if_neg (by decide), if_neg (by decide), if_neg (by decide)]
    rfl
  rw [C, M]
  rcases num_b n m (show 3 < 4 by decide) h hp hy hc hm with ⟨w1, w2, w3, w4, w5, w6⟩ | ⟨σ', τ', w5, w6, fo⟩
  · rw [w5, w6, bv_mk, bv_mk]
    have BT : byN ((NU τ 3 (byN (τ 1) p)) 1) = byN (τ 1) := by rw [NU_ne (by decide)]
    rcases tks_b n m some some (h.num (p := p) (K := 3) (x := byN (τ 1) p) (by decide)) (hc.num (by decide)) (hm.num) [(0, 20), (0, 255), (0, 255), (0, 8)] (p + 1) (by omega) (by decide) with ⟨v1, v2, v3, v4⟩ | ⟨σ', τ', v3, v4, fo⟩
    · rw [v3, v4]
      rw [BT] at v2
      refine Or.inl ⟨_, _, rfl, rfl, OB.mk2 (by decide) h w1 w2 w3 w4 v1 (fun he => ?_)⟩
      refine ⟨fun q => absurd q (by decide), fun q => absurd q (by decide), fun q => absurd q (by decide), fun _ => ⟨by rw [← he]; rfl, ?_, ?_⟩⟩
      · exact (v2 0 (by decide)).2
      · have := (v2 3 (by decide)).2
        rw [show p + 1 + 3 = p + 4 by omega] at this
        exact this
    · rw [v3, v4]
      exact Or.inr ⟨_, _, rfl, rfl, fo⟩
  · rw [w5, w6, bv_mk, bv_mk, tksC_f n some fo.c, tksM_f m some fo.m]
    exact Or.inr ⟨_, _, rfl, rfl, fo⟩
/-! a script -/
theorem script_b {T e p : Nat} {σ τ σ0 τ0 : Mem} (n m : Nat) (h : BS T e σ τ) (hp : p ≤ e) (hy : ∀ x, 0 < x → x ≤ mxK 1 → (σ (5 + 3 * 1) x = 0 ↔ τ 13 (64 * 1 + x) = 0)) (hc : RC σ0 σ) (hm : RM τ0 τ) : BR (byN (τ 1)) 1 p e σ0 τ0 σ τ (f_X4_readScript n (Sp σ p)) (f_X11_judgeBlock m (nI 83) (Up τ p)) := by
  have C : f_X4_readScript n (Sp σ p) = bv (f_X4_takeNumber n (4 + 3 * 1) (Sp σ p)) fun s1 => tksC n (nIL [(0, 255)]) (fun s2 => if s2 31 0 = 0 then some (stM s2 31 4 (s2 31 5)) else some s2) s1 := rfl
  have M : f_X11_judgeBlock m (nI 83) (Up τ p) = bv (f_X11_names m (nI 1) (nI (mxK 1)) (Up τ p)) fun s1 => tksM m (nIL [(0, 255)]) (fun s2 => if s2 0 19 = 0 then some (stM s2 0 22 (s2 0 23)) else some (stM s2 0 22 (s2 0 22))) s1 := by
    unfold f_X11_judgeBlock
    rw [if_neg (by decide), if_pos (by decide)]
    rfl
  have FF : ∀ σ' τ', FO σ0 τ0 σ' τ' → BR (byN (τ 1)) 1 p e σ0 τ0 σ τ (if σ' 31 0 = 0 then some (stM σ' 31 4 (σ' 31 5)) else some σ') (if τ' 0 19 = 0 then some (stM τ' 0 22 (τ' 0 23)) else some (stM τ' 0 22 (τ' 0 22))) := fun σ' τ' fo => by
    rw [if_neg fo.c, if_neg fo.m, stM_id rfl]
    exact Or.inr ⟨_, _, rfl, rfl, fo⟩
  rw [C, M]
  rcases num_b n m (show 1 < 4 by decide) h hp hy hc hm with ⟨w1, w2, w3, w4, w5, w6⟩ | ⟨σ', τ', w5, w6, fo⟩
  · rw [w5, w6, bv_mk, bv_mk]
    have b1 := h.num (p := p) (K := 1) (x := byN (τ 1) p) (by decide)
    rcases tks_b n m (fun s2 => if s2 31 0 = 0 then some (stM s2 31 4 (s2 31 5)) else some s2) (fun s2 => if s2 0 19 = 0 then some (stM s2 0 22 (s2 0 23)) else some (stM s2 0 22 (s2 0 22))) b1 (hc.num (by decide)) (hm.num) [(0, 255)] (p + 1) (by omega) (by decide) with ⟨v1, v2, v3, v4⟩ | ⟨σ', τ', v3, v4, fo⟩
    · rw [v3, v4]
      left
      refine ⟨Sp (NS σ 1 p e (byN (τ 1) p)) e, Up (NU τ 1 (byN (τ 1) p)) e, ?_, ?_, OB.mk2 (by decide) h w1 w2 w3 w4 (by omega) (fun _ => ?_)⟩
      · show (if Sp (NS σ 1 p e (byN (τ 1) p)) (p + 1 + 1) 31 0 = 0 then _ else _) = _
        rw [Sp_31 (by decide), if_pos b1.1, Sp_31 (by decide), b1.2.2.1]
        congr 1
        exact Sp_tw _ _ _
      · show (if Up (NU τ 1 (byN (τ 1) p)) (p + 1 + 1) 0 19 = 0 then _ else _) = _
        rw [Up_0 (show 19 ≠ 22 by decide), if_pos b1.2.1, Up_0 (show 23 ≠ 22 by decide), b1.2.2.2.1]
        congr 1
        exact Up_tw _ _ _
      · refine ⟨fun q => absurd q (by decide), fun _ => ?_, fun q => absurd q (by decide), fun q => absurd q (by decide)⟩
        have : ([(0, 255)] : List (Nat × Nat)).length = 1 := rfl
        omega
    · rw [v3, v4]
      exact FF _ _ fo
  · rw [w5, w6, bv_mk, bv_mk, tksC_f n _ fo.c, tksM_f m _ fo.m]
    exact FF _ _ fo
/-! a room -/
theorem room_f {c : Nat} (hc : c ≤ 255) : ∀ (d k M : Nat) (σ : Mem), k + d = c → d < M → ¬ σ 31 0 = 0 → itr2 b_X4_readRoom_21 M (nI c) (nI k) σ = some σ := by
  intro d
  induction d with
  | zero =>
    intro k M σ hk hM h
    obtain ⟨M, rfl⟩ : ∃ m', M = m' + 1 := ⟨M - 1, by omega⟩
    show b_X4_readRoom_21 M (itr2 b_X4_readRoom_21 M) _ _ σ = _
    generalize itr2 b_X4_readRoom_21 M = w
    unfold b_X4_readRoom_21
    rw [if_pos (nI_le (by omega) (by omega))]
  | succ d ih =>
    intro k M σ hk hM h
    obtain ⟨M, rfl⟩ : ∃ m', M = m' + 1 := ⟨M - 1, by omega⟩
    have i1 := ih (k + 1) M σ (by omega) (by omega) h
    show b_X4_readRoom_21 M (itr2 b_X4_readRoom_21 M) _ _ σ = _
    generalize itr2 b_X4_readRoom_21 M = w at i1 ⊢
    unfold b_X4_readRoom_21
    rw [if_neg (nI_ge (by omega) (by omega)), take_f M h, bd_mk, take_f M h, bd_mk, take_f M h, bd_mk, take_f M h, bd_mk, take_f M h, bd_mk, lt_eq, show nI k + Int32.ofInt 1 = nI (k + 1) from nI_1 k]
    exact i1
theorem roomM_f {M : Nat} (hM : 0 < M) (x y : Int32) {τ : Mem} (h : ¬ τ 0 19 = 0) : itr2 b_X11_judgeRoom_17 M x y τ = some τ := by
  obtain ⟨M, rfl⟩ : ∃ m', M = m' + 1 := ⟨M - 1, by omega⟩
  show b_X11_judgeRoom_17 M (itr2 b_X11_judgeRoom_17 M) _ _ τ = _
  generalize itr2 b_X11_judgeRoom_17 M = w
  unfold b_X11_judgeRoom_17 b_X11_judgeRoom_83
  by_cases q : x ≤ y
  · rw [if_pos q]
  · rw [if_neg q, if_neg h]
theorem room_lp {T e p c : Nat} {σ τ σ0 τ0 : Mem} (hcc : c ≤ 255) (h : BS T e σ τ) (hc : RC σ0 σ) (hm : RM τ0 τ) : ∀ (d k M M' : Nat), k + d = c → d < M → d + 1 < M' → p + 2 + 5 * k ≤ e → (∀ j, j < k → byN (τ 1) (p + 2 + 5 * j) ≤ byN (τ 1) (p + 4 + 5 * j) ∧ byN (τ 1) (p + 3 + 5 * j) ≤ byN (τ 1) (p + 5 + 5 * j) ∧ byN (τ 1) (p + 6 + 5 * j) ≤ 1) →
    (p + 2 + 5 * c ≤ e ∧ (∀ j, j < c → byN (τ 1) (p + 2 + 5 * j) ≤ byN (τ 1) (p + 4 + 5 * j) ∧ byN (τ 1) (p + 3 + 5 * j) ≤ byN (τ 1) (p + 5 + 5 * j) ∧ byN (τ 1) (p + 6 + 5 * j) ≤ 1) ∧ itr2 b_X4_readRoom_21 M (nI c) (nI k) (Sp σ (p + 2 + 5 * k)) = some (Sp σ (p + 2 + 5 * c)) ∧ itr2 b_X11_judgeRoom_17 M' (nI c) (nI k) (Up τ (p + 2 + 5 * k)) = some (Up τ (p + 2 + 5 * c))) ∨
    ∃ σ' τ', itr2 b_X4_readRoom_21 M (nI c) (nI k) (Sp σ (p + 2 + 5 * k)) = some σ' ∧ itr2 b_X11_judgeRoom_17 M' (nI c) (nI k) (Up τ (p + 2 + 5 * k)) = some τ' ∧ FO σ0 τ0 σ' τ' := by
  intro d
  induction d with
  | zero =>
    intro k M M' hk hM hM' hp hf
    have e : k = c := by omega
    subst e
    obtain ⟨M, rfl⟩ : ∃ m', M = m' + 1 := ⟨M - 1, by omega⟩
    obtain ⟨M', rfl⟩ : ∃ m', M' = m' + 1 := ⟨M' - 1, by omega⟩
    refine Or.inl ⟨hp, hf, ?_, ?_⟩
    · show b_X4_readRoom_21 M (itr2 b_X4_readRoom_21 M) _ _ _ = _
      generalize itr2 b_X4_readRoom_21 M = w
      unfold b_X4_readRoom_21
      rw [if_pos (nI_le (by omega) (by omega))]
    · show b_X11_judgeRoom_17 M' (itr2 b_X11_judgeRoom_17 M') _ _ _ = _
      generalize itr2 b_X11_judgeRoom_17 M' = w
      unfold b_X11_judgeRoom_17 b_X11_judgeRoom_83
      rw [if_pos (nI_le (by omega) (by omega))]
  | succ d ih =>
    intro k M M' hk hM hM' hp hf
    obtain ⟨M, rfl⟩ : ∃ m', M = m' + 1 := ⟨M - 1, by omega⟩
    obtain ⟨M', rfl⟩ : ∃ m', M' = m' + 1 := ⟨M' - 1, by omega⟩
    have C : itr2 b_X4_readRoom_21 (M + 1) (nI c) (nI k) (Sp σ (p + 2 + 5 * k)) = bd (f_X4_take M (nI 0) (nI 255) (Sp σ (p + 2 + 5 * k))) (fun x2 s1 => bd (f_X4_take M (nI 0) (nI 255) s1) (fun x4 s3 => bd (f_X4_take M x2 (nI 255) s3) (fun x6 s5 => bd (f_X4_take M x4 (nI 255) s5) (fun x8 s7 => bd (f_X4_take M (nI 0) (nI 1) s7) (fun x10 s9 => itr2 b_X4_readRoom_21 M (nI c) (nI (k + 1)) s9))))) := by
      show b_X4_readRoom_21 M (itr2 b_X4_readRoom_21 M) _ _ _ = _
      generalize itr2 b_X4_readRoom_21 M = w
      unfold b_X4_readRoom_21
      rw [if_neg (nI_ge (by omega) (by omega)), show nI k + Int32.ofInt 1 = nI (k + 1) from nI_1 k]
      rfl
    have Mo : itr2 b_X11_judgeRoom_17 (M' + 1) (nI c) (nI k) (Up τ (p + 2 + 5 * k)) = bd (f_X11_wants M' (nI 0) (nI 255) (Up τ (p + 2 + 5 * k))) (fun x2 s1 => bd (f_X11_wants M' (nI 0) (nI 255) s1) (fun x4 s3 => bd (f_X11_wants M' x2 (nI 255) s3) (fun x6 s5 => bd (f_X11_wants M' x4 (nI 255) s5) (fun x8 s7 => bd (f_X11_wants M' (nI 0) (nI 1) s7) (fun x10 s9 => itr2 b_X11_judgeRoom_17 M' (nI c) (nI (k + 1)) s9))))) := by
      show b_X11_judgeRoom_17 M' (itr2 b_X11_judgeRoom_17 M') _ _ _ = _
      generalize itr2 b_X11_judgeRoom_17 M' = w
      unfold b_X11_judgeRoom_17
      rw [if_neg (nI_ge (by omega) (by omega)), Up_0 (by decide), if_pos h.2.1, show nI k + Int32.ofInt 1 = nI (k + 1) from nI_1 k]
      rfl
    rw [C, Mo]
    have FF : ∀ σ' τ', FO σ0 τ0 σ' τ' → itr2 b_X4_readRoom_21 M (nI c) (nI (k + 1)) σ' = some σ' ∧ itr2 b_X11_judgeRoom_17 M' (nI c) (nI (k + 1)) τ' = some τ' := fun σ' τ' fo => ⟨room_f hcc d (k + 1) M σ' (by omega) (by omega) fo.c, roomM_f (by omega) _ _ fo.m⟩
    rcases take_b (p := p + 2 + 5 * k) (a := 0) (b := 255) M M' h hp (by omega) (by omega) with ⟨a1, a2, a3, a4, a5⟩ | ⟨a4, a5⟩
    · rw [a4, a5, bd_mk, bd_mk]
      rcases take_b (p := p + 2 + 5 * k + 1) (a := 0) (b := 255) M M' h (show p + 2 + 5 * k + 1 ≤ e by omega) (by omega) (by omega) with ⟨b1, b2, b3, b4, b5⟩ | ⟨b4, b5⟩
      · rw [b4, b5, bd_mk, bd_mk]
        rcases take_b (p := p + 2 + 5 * k + 1 + 1) (a := byN (τ 1) (p + 2 + 5 * k)) (b := 255) M M' h (show p + 2 + 5 * k + 1 + 1 ≤ e by omega) (by have := (tape_by h.2.2.2.2.2 (show p + 2 + 5 * k < T by have := h.2.2.2.2.1; omega)).2; omega) (by omega) with ⟨c1, c2, c3, c4, c5⟩ | ⟨c4, c5⟩
        · rw [c4, c5, bd_mk, bd_mk]
          rcases take_b (p := p + 2 + 5 * k + 1 + 1 + 1) (a := byN (τ 1) (p + 2 + 5 * k + 1)) (b := 255) M M' h (show p + 2 + 5 * k + 1 + 1 + 1 ≤ e by omega) (by have := (tape_by h.2.2.2.2.2 (show p + 2 + 5 * k + 1 < T by have := h.2.2.2.2.1; omega)).2; omega) (by omega) with ⟨d1, d2, d3, d4, d5⟩ | ⟨d4, d5⟩
          · rw [d4, d5, bd_mk, bd_mk]
            rcases take_b (p := p + 2 + 5 * k + 1 + 1 + 1 + 1) (a := 0) (b := 1) M M' h (show p + 2 + 5 * k + 1 + 1 + 1 + 1 ≤ e by omega) (by omega) (by omega) with ⟨e1, e2, e3, e4, e5⟩ | ⟨e4, e5⟩
            · rw [e4, e5, bd_mk, bd_mk]
              rw [show p + 2 + 5 * k + 1 + 1 + 1 + 1 + 1 = p + 2 + 5 * (k + 1) by omega]
              refine ih (k + 1) M M' (by omega) (by omega) (by omega) (by omega) (fun j hj => ?_)
              by_cases ej : j = k
              · subst ej
                rw [show p + 3 + 5 * j = p + 2 + 5 * j + 1 by omega, show p + 4 + 5 * j = p + 2 + 5 * j + 1 + 1 by omega, show p + 5 + 5 * j = p + 2 + 5 * j + 1 + 1 + 1 by omega, show p + 6 + 5 * j = p + 2 + 5 * j + 1 + 1 + 1 + 1 by omega]
                exact ⟨c2, d2, e3⟩
              · exact hf j (by omega)
            · have fo := FS_FO (p := p + 2 + 5 * k + 1 + 1 + 1 + 1) hc hm
              rw [e4, e5, bd_mk, bd_mk]
              exact Or.inr ⟨_, _, (FF _ _ fo).1, (FF _ _ fo).2, fo⟩
          · have fo := FS_FO (p := p + 2 + 5 * k + 1 + 1 + 1) hc hm
            rw [d4, d5, bd_mk, bd_mk, take_f M fo.c, wants_f M' fo.m, bd_mk, bd_mk]
            exact Or.inr ⟨_, _, (FF _ _ fo).1, (FF _ _ fo).2, fo⟩
        · have fo := FS_FO (p := p + 2 + 5 * k + 1 + 1) hc hm
          rw [c4, c5, bd_mk, bd_mk, take_f M fo.c, wants_f M' fo.m, bd_mk, bd_mk, take_f M fo.c, wants_f M' fo.m, bd_mk, bd_mk]
          exact Or.inr ⟨_, _, (FF _ _ fo).1, (FF _ _ fo).2, fo⟩
      · have fo := FS_FO (p := p + 2 + 5 * k + 1) hc hm
        rw [b4, b5, bd_mk, bd_mk, take_f M fo.c, wants_f M' fo.m, bd_mk, bd_mk, take_f M fo.c, wants_f M' fo.m, bd_mk, bd_mk, take_f M fo.c, wants_f M' fo.m, bd_mk, bd_mk]
        exact Or.inr ⟨_, _, (FF _ _ fo).1, (FF _ _ fo).2, fo⟩
    · have fo := FS_FO (p := p + 2 + 5 * k) hc hm
      rw [a4, a5, bd_mk, bd_mk, take_f M fo.c, wants_f M' fo.m, bd_mk, bd_mk, take_f M fo.c, wants_f M' fo.m, bd_mk, bd_mk, take_f M fo.c, wants_f M' fo.m, bd_mk, bd_mk, take_f M fo.c, wants_f M' fo.m, bd_mk, bd_mk]
      exact Or.inr ⟨_, _, (FF _ _ fo).1, (FF _ _ fo).2, fo⟩
theorem rroom_b {T e p : Nat} {σ τ σ0 τ0 : Mem} (n m : Nat) (hn : 1000 ≤ n) (hm' : 1000 ≤ m) (h : BS T e σ τ) (hp : p ≤ e) (hy : ∀ x, 0 < x → x ≤ mxK 0 → (σ (5 + 3 * 0) x = 0 ↔ τ 13 (64 * 0 + x) = 0)) (hc : RC σ0 σ) (hm : RM τ0 τ) : BR (byN (τ 1)) 0 p e σ0 τ0 σ τ (f_X4_readRoom n (Sp σ p)) (f_X11_judgeBlock m (nI 82) (Up τ p)) := by
  have C : f_X4_readRoom n (Sp σ p) = bv (f_X4_takeNumber n (4 + 3 * 0) (Sp σ p)) fun s1 => bd (f_X4_take n (nI 0) (nI 16) s1) fun x3 s2 => itr2 b_X4_readRoom_21 n x3 (nI 0) s2 := rfl
  have M : f_X11_judgeBlock m (nI 82) (Up τ p) = bv (bv (f_X11_names m (nI 0) (nI (mxK 0)) (Up τ p)) fun s1 => bd (f_X11_wants m (nI 0) (nI 16) s1) fun x3 s2 => itr2 b_X11_judgeRoom_17 m x3 (nI 0) s2) fun s => some s := by
    unfold f_X11_judgeBlock
    rw [if_pos (by decide)]
    rfl
  have F0 : ∀ σ' : Mem, itr2 b_X4_readRoom_21 n (-1) (nI 0) σ' = some σ' := fun σ' => by
    obtain ⟨n, rfl⟩ : ∃ m', n = m' + 1 := ⟨n - 1, by omega⟩
    show b_X4_readRoom_21 n (itr2 b_X4_readRoom_21 n) _ _ _ = _
    generalize itr2 b_X4_readRoom_21 n = w
    unfold b_X4_readRoom_21
    rw [if_pos (by decide)]
  rw [C, M, bv_id]
  rcases num_b n m (show 0 < 4 by decide) h hp hy hc hm with ⟨w1, w2, w3, w4, w5, w6⟩ | ⟨σ', τ', w5, w6, fo⟩
  · rw [w5, w6, bv_mk, bv_mk]
    have b1 := h.num (p := p) (K := 0) (x := byN (τ 1) p) (by decide)
    have BT : byN ((NU τ 0 (byN (τ 1) p)) 1) = byN (τ 1) := by rw [NU_ne (by decide)]
    rcases take_b (p := p + 1) (a := 0) (b := 16) n m b1 (by omega) (by omega) (by omega) with ⟨v1, -, v3, v4, v5⟩ | ⟨v4, v5⟩
    · rw [v4, v5, bd_mk, bd_mk]
      rw [BT] at v3 ⊢
      rcases room_lp (p := p) (c := byN (τ 1) (p + 1)) (by omega) b1 (hc.num (by decide)) hm.num (byN (τ 1) (p + 1)) 0 n m (by omega) (by omega) (by omega) (by omega) (fun j hj => by omega) with ⟨u1, u2, u3, u4⟩ | ⟨σ', τ', u3, u4, fo⟩
      · rw [BT] at u2
        rw [show p + 2 + 5 * 0 = p + 1 + 1 by omega] at u3 u4
        rw [u3, u4]
        refine Or.inl ⟨_, _, rfl, rfl, OB.mk2 (by decide) h w1 w2 w3 w4 u1 (fun he => ?_)⟩
        exact ⟨fun _ => ⟨byN (τ 1) (p + 1), v3, rfl, he.symm, u2⟩, fun q => absurd q (by decide), fun q => absurd q (by decide), fun q => absurd q (by decide)⟩
      · rw [show p + 2 + 5 * 0 = p + 1 + 1 by omega] at u3 u4
        rw [u3, u4]
        exact Or.inr ⟨_, _, rfl, rfl, fo⟩
    · have fo := FS_FO (p := p + 1) (hc.num (K := 0) (p := p) (e := e) (x := byN (τ 1) p) (by decide)) (hm.num (K := 0) (x := byN (τ 1) p))
      rw [v4, v5, bd_mk, bd_mk, F0, roomM_f (by omega) _ _ fo.m]
      exact Or.inr ⟨_, _, rfl, rfl, fo⟩
  · rw [w5, w6, bv_mk, bv_mk, take_f n fo.c, wants_f m fo.m, bd_mk, bd_mk, F0, roomM_f (by omega) _ _ fo.m]
    exact Or.inr ⟨_, _, rfl, rfl, fo⟩
