/-! pure rows of the general states -/
theorem at_ix {sz_ : Nat} {x : Int32} (hs : sz_ ≤ 300) (h : ¬ (x < 0 ∨ nI sz_ - 1 < x)) : ∃ j, j < sz_ ∧ x = nI j := by
  have h0 : ¬ x < 0 := fun z => h (Or.inl z)
  obtain ⟨j, hj, rfl⟩ := nI_of h0
  refine ⟨j, ?_, rfl⟩
  cases sz_ with
  | zero =>
    refine absurd (Or.inr ?_) h
    have e0 : nI 0 - 1 = (-1 : Int32) := by decide
    rw [e0]
    have e1 : (-1 : Int32).toInt = -1 := by decide
    simp only [Int32.lt_iff_toInt_lt, e1, nI_toInt hj]
    omega
  | succ n =>
    rw [nI_pred] at h
    have h1 : ¬ nI n < nI j := fun z => h (Or.inr z)
    have h2 : ¬ n < j := fun z => h1 (nI_lt z hj)
    omega
theorem ix31 {x : Int32} (h : ¬ (x < 0 ∨ 31 < x)) : ∃ j, j < 32 ∧ x = nI j := by
  obtain ⟨j, hj, rfl⟩ := nI_of2 (M := 31) (n := 31) (by decide) (fun z => h (Or.inl z)) (Int32.not_lt.mp (fun z => h (Or.inr z)))
  exact ⟨j, by omega, rfl⟩
theorem ix31n {j : Nat} (h : j < 32) : ¬ (nI j < 0 ∨ 31 < nI j) := by
  rintro (z | z)
  · exact nI_pos (n := j) (by omega) z
  · exact absurd ((nI_ltI (a := 31) (b := j) (by omega) (by omega)).mp z) (by omega)
theorem cp_step {fw g : Nat → Int32} {fr_ to_ k : Nat} (hk : k < 928) (h3 : fr_ ≠ to_) (h : (∀ j, j < k → g (928 * to_ + j) = fw (928 * fr_ + j)) ∧ ∀ j, (∀ i, i < 928 → j ≠ 928 * to_ + i) → g j = fw j) :
    (∀ j, j < k + 1 → upd g (928 * to_ + k) (g (928 * fr_ + k)) (928 * to_ + j) = fw (928 * fr_ + j)) ∧ ∀ j, (∀ i, i < 928 → j ≠ 928 * to_ + i) → upd g (928 * to_ + k) (g (928 * fr_ + k)) j = fw j := by
  have hr : g (928 * fr_ + k) = fw (928 * fr_ + k) := h.2 _ (fun i hi => by omega)
  refine ⟨fun j hj => ?_, fun j hj => ?_⟩
  · by_cases hjk : j = k
    · subst hjk
      rw [pk_us, hr]
    · rw [pk_un (by omega)]
      exact h.1 j (by omega)
  · rw [pk_un (hj k hk)]
    exact h.2 j hj
theorem em_init (fw : Nat → Int32) (oo : Nat) : upd (upd fw (29 * oo) 1) (29 * oo + 1) 0 (29 * oo) = 1 ∧ upd (upd fw (29 * oo) 1) (29 * oo + 1) 0 (29 * oo + 1) = 0 ∧ ∀ j, (∀ i, i < 29 → j ≠ 29 * oo + i) → upd (upd fw (29 * oo) 1) (29 * oo + 1) 0 j = fw j := by
  refine ⟨?_, pk_us, fun j hj => ?_⟩
  · rw [pk_un (by omega), pk_us]
  · have h0 := hj 0 (by decide)
    rw [pk_un (hj 1 (by decide)), pk_un (by omega)]
theorem em_step {fw g : Nat → Int32} {oo k : Nat} (hk : k < 8) (h : g (29 * oo) = 1 ∧ g (29 * oo + 1) = 0 ∧ ∀ j, (∀ i, i < 29 → j ≠ 29 * oo + i) → g j = fw j) :
    upd g (29 * oo + 5 + 3 * k) 0 (29 * oo) = 1 ∧ upd g (29 * oo + 5 + 3 * k) 0 (29 * oo + 1) = 0 ∧ ∀ j, (∀ i, i < 29 → j ≠ 29 * oo + i) → upd g (29 * oo + 5 + 3 * k) 0 j = fw j := by
  refine ⟨?_, ?_, fun j hj => ?_⟩
  · rw [pk_un (by omega)]; exact h.1
  · rw [pk_un (by omega)]; exact h.2.1
  · have h1 := hj (5 + 3 * k) (by omega)
    rw [pk_un (by omega)]
    exact h.2.2 j hj
