/-! ===== calls that ask, and the least ones that change ===== -/
theorem StI.wr {σ : Mem} {b t R J : Nat} {v : Int32} (h : StI σ b t) (hb : R = b → J ≠ 5 ∧ J ≠ 2) (hs : ∀ i, i < 8 → R ≠ b + 9 + 2 * i ∧ R ≠ b + 10 + 2 * i) (ha : ∀ a, a < 13 → R ≠ b + 25 + a) (h6 : R ≠ b + 6) (h23 : R ≠ 23) (h29 : R ≠ 29) : StI (stM σ R J v) b t := by
  obtain ⟨a1, a2, a3, a4, a5, a6, a7⟩ := h
  have e5 : stM σ R J v b 5 = σ b 5 := stM_far (by by_cases e : R = b; exact Or.inr (Ne.symm (hb e).1); exact Or.inl (Ne.symm e))
  have e2 : stM σ R J v b 2 = σ b 2 := stM_far (by by_cases e : R = b; exact Or.inr (Ne.symm (hb e).2); exact Or.inl (Ne.symm e))
  refine ⟨by rw [e5]; exact a1, by rw [e5]; exact a2, by rw [e2]; exact a3, by rw [e2]; exact a4, ?_, ?_, ?_⟩
  · intro i hi
    have := a5 i hi
    unfold SlotI at this ⊢
    rw [stM_ne (Ne.symm (hs i hi).1), show b + 9 + 2 * i + 1 = b + 10 + 2 * i by omega, stM_ne (Ne.symm (hs i hi).2), stM_ne (Ne.symm h23), stM_ne (Ne.symm h29)]
    rw [show b + 9 + 2 * i + 1 = b + 10 + 2 * i by omega] at this
    exact this
  · intro a ha9
    have := a6 a ha9
    unfold ActI at this ⊢
    rw [stM_ne (Ne.symm (ha a ha9)), stM_ne (Ne.symm h29)]
    exact this
  · rw [stM_ne (Ne.symm h6)]
    exact a7
def Sim (t : Nat) (E1 E2 : Option (Int32 × Mem)) : Prop := ∃ r σ' τ', E1 = some (r, σ') ∧ E2 = some (r, τ') ∧ Rel (t + 1) σ' τ'
def SimX (t : Nat) (E1 : Option (Option Int32 × Mem)) (E2 : Option (Int32 × Mem)) : Prop := (∃ r σ' τ', E1 = some (some r, σ') ∧ E2 = some (r, τ') ∧ τ' 0 0 = 0 ∧ Rel (t + 1) σ' τ') ∨ ∃ r σ' τ', E1 = some (none, σ') ∧ E2 = some (r, τ') ∧ τ' 0 0 = 1 ∧ Rel (t + 1) σ' τ'
theorem Rel.th {t : Nat} {σ τ : Mem} (h : Rel t σ τ) (v : Int32) : Rel (t + 1) σ (stM τ 0 0 v) := by
  obtain ⟨T, S, -, -, -, a6, -⟩ := id h
  refine h.step (fun j h1 h2 _ _ _ _ => stM_far (Or.inr h2)) rfl (agr_rf _ _ _) (agr_rf _ _ _) ⟨rfl, rfl⟩ (agr_rf _ _ _) (agr_st (Or.inl (by omega))) (stM_ne (by decide)) ?_
  rw [stM_ne (show (15 : Nat) ≠ 0 by decide)]
  exact ⟨a6.1, a6.2.up⟩
theorem Rel.th2 {t : Nat} {σ τ : Mem} (h : Rel t σ τ) (v w : Int32) : Rel (t + 1) σ (stM (stM τ 0 0 v) 0 0 w) := by
  rw [show stM (stM τ 0 0 v) 0 0 w = stM τ 0 0 w by funext a b; unfold stM; by_cases ha : a = 0 <;> by_cases hb : b = 0 <;> simp [ha, hb]]
  exact h.th w
theorem Rel.st {t : Nat} {σ τ : Mem} (h : Rel t σ τ) : StR σ 33 (τ 15) ∧ StI σ 33 t := by
  obtain ⟨T, S, -, -, -, a6, -⟩ := h
  exact a6
theorem sim_fault {t : Nat} {σ τ : Mem} (h : Rel t σ τ) (n : Nat) (x : Int32) : Sim t (f_X10_fault n x σ) (f_X11_fault n x τ) := by
  obtain ⟨T, S, -, -, -, -, -, h1, h2⟩ := id h
  unfold f_X10_fault f_X11_fault b_X10_fault_28 b_X11_fault_29
  rw [lt_eq, stM_far (Or.inr (by decide)), stM_far (Or.inr (by decide)), ← h1, ← h2]
  by_cases e0 : x = 0
  · rw [if_pos e0, if_pos e0]
    exact ⟨_, _, _, rfl, rfl, h.th 0⟩
  · rw [if_neg e0, if_neg e0]
    by_cases e1 : x = 1
    · rw [if_pos e1, if_pos e1]
      exact ⟨_, _, _, rfl, rfl, h.th 0⟩
    · rw [if_neg e1, if_neg e1]
      exact ⟨_, _, _, rfl, rfl, h.th 0⟩
theorem refuse_eq (n : Nat) (s : Mem) : f_X11_refuse n s = some (0, stM s 0 0 1) := rfl
theorem ix6 (i : Nat) : (6 : Int32) + nI i = nI (6 + i) := by
  show nI 6 + nI i = _
  rw [nI_add]
theorem sim_variable {t : Nat} {σ τ : Mem} (h : Rel t σ τ) (n : Nat) (x : Int32) : SimX t (f_X10_variable n x σ) (f_X11_variable n x τ) := by
  unfold f_X10_variable f_X11_variable b_X10_variable_10 b_X11_variable_33
  rw [lt_eq]
  rcases pk_ix x (n := 64) (by decide) with hx | hx | ⟨i, hi, rfl⟩
  · have g : x.toInt < 0 := lt_T.mp hx
    rw [if_pos hx, in_f n x 0 63 _ (by show ¬ ((0 : Int) ≤ x.toInt ∧ x.toInt ≤ 63); omega), bd_mk, if_pos rfl, refuse_eq, bd_mk]
    exact Or.inr ⟨_, _, _, rfl, rfl, stM_hit _ _ _ _, h.th2 0 1⟩
  · have g : 64 ≤ x.toInt := le_T.mp hx
    rw [if_neg (fun q => by have := lt_T.mp q; have : x.toInt < 0 := this; omega), if_neg (fun q => by have : x.toInt < 64 := lt_T.mp q; omega), in_f n x 0 63 _ (by show ¬ ((0 : Int) ≤ x.toInt ∧ x.toInt ≤ 63); omega), bd_mk, if_pos rfl, refuse_eq, bd_mk]
    exact Or.inr ⟨_, _, _, rfl, rfl, stM_hit _ _ _ _, h.th2 0 1⟩
  · have g : (nI i).toInt = (i : Int) := nI_toInt (by omega)
    rw [if_neg (nI_pos (by omega)), show (64 : Int32) = nI 64 from rfl, if_pos (nI_lt hi (by omega)), ck_t (inb_nI hi (by decide)), in_t n (nI i) 0 63 _ (by rw [g]; show (0 : Int) ≤ i ∧ (i : Int) ≤ 63; omega), bd_mk, if_neg (by decide), ix6, ck_t (inb_nI (by omega) (by decide)), nI_clamp (by omega), nI_clamp (by omega), stM_ne (show (15 : Nat) ≠ 0 by decide), h.st.1.2.1 i hi]
    exact Or.inl ⟨_, _, _, rfl, rfl, stM_hit _ _ _ _, h.th 0⟩
theorem sim_set {t : Nat} {σ τ : Mem} (h : Rel t σ τ) (n : Nat) (x v : Int32) : SimX t (f_X10_set n x v σ) (f_X11_set n x v τ) := by
  unfold f_X10_set f_X11_set b_X10_set_10
  simp only [lt_eq]
  rcases pk_ix x (n := 64) (by decide) with hx | hx | ⟨i, hi, rfl⟩
  · have g : x.toInt < 0 := lt_T.mp hx
    rw [if_pos hx, in_f n x 0 63 _ (by show ¬ ((0 : Int) ≤ x.toInt ∧ x.toInt ≤ 63); omega), bd_mk, if_pos rfl, refuse_eq, bd_mk]
    exact Or.inr ⟨_, _, _, rfl, rfl, stM_hit _ _ _ _, h.th2 0 1⟩
  · have g : 64 ≤ x.toInt := le_T.mp hx
    rw [if_neg (fun q => by have := lt_T.mp q; have : x.toInt < 0 := this; omega), if_neg (fun q => by have : x.toInt < 64 := lt_T.mp q; omega), in_f n x 0 63 _ (by show ¬ ((0 : Int) ≤ x.toInt ∧ x.toInt ≤ 63); omega), bd_mk, if_pos rfl, refuse_eq, bd_mk]
    exact Or.inr ⟨_, _, _, rfl, rfl, stM_hit _ _ _ _, h.th2 0 1⟩
  · have g : (nI i).toInt = (i : Int) := nI_toInt (by omega)
    rw [if_neg (nI_pos (by omega)), show (64 : Int32) = nI 64 from rfl, if_pos (nI_lt hi (by omega)), ck_t (inb_nI hi (by decide)), ck_t (inb_nI hi (by decide)), in_t n (nI i) 0 63 _ (by rw [g]; show (0 : Int) ≤ i ∧ (i : Int) ≤ 63; omega), bd_mk, if_neg (by decide), ix6, ck_t (inb_nI (by omega) (by decide)), ck_t (inb_nI (by omega) (by decide)), nI_clamp (by omega), nI_clamp (by omega), stM_ne (show (15 : Nat) ≠ 0 by decide), h.st.1.2.1 i hi]
    refine Or.inl ⟨_, _, _, rfl, rfl, by rw [stM_far (Or.inl (by decide)), stM_hit], ?_⟩
    have hb := h.th 0
    obtain ⟨s1, s2⟩ := h.st
    refine h.step (fun j h1 h2 _ _ _ _ => by rw [stM_far (Or.inl (by decide)), stM_far (Or.inr h2)]) (stM_ne (by decide)) (agr_st (Or.inr (by omega))) (agr_st (Or.inr (by omega))) ⟨stM_far (Or.inl (by decide)), stM_far (Or.inl (by decide))⟩ (agr_st (Or.inl (by omega))) (agr_tr (agr_st (Or.inl (by omega))) (agr_st (Or.inr (by omega)))) (by rw [stM_ne (by decide), stM_ne (by decide)]) ?_
    rw [stM_row, stM_ne (show (15 : Nat) ≠ 0 by decide)]
    exact ⟨s1.var s2.2.1 v hi, (s2.wr (by omega) (fun i h => by omega) (fun a h => by omega) (by decide) (by decide) (by decide)).up⟩
