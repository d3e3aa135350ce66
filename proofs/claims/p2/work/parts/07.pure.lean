/-! pure rows of the general states -/
theorem at_ix {sz_ : Nat} {x : Int32} (hs : sz_ ≤ 300) (h : ¬ (x < 0 ∨ nI sz_ - 1 < x)) : ∃ j, j < sz_ ∧ x = nI j := by
  have h0 : ¬ x < 0 := fun z => h (Or.inl z)
  obtain ⟨j, hj, rfl⟩ := nI_of h0
  refine ⟨j, ?_, rfl⟩
  cases sz_ with
  | zero =>
    refine absurd (Or.inr ?_) h
    have e0 : nI 0 - 1 = (-1 : Int32) := by decide
    rw [e0]
    have e1 : (-1 : Int32).toInt = -1 := by decide
    simp only [Int32.lt_iff_toInt_lt, e1, nI_toInt hj]
    omega
  | succ n =>
    rw [nI_pred] at h
    have h1 : ¬ nI n < nI j := fun z => h (Or.inr z)
    have h2 : ¬ n < j := fun z => h1 (nI_lt z hj)
    omega
theorem ix31 {x : Int32} (h : ¬ (x < 0 ∨ 31 < x)) : ∃ j, j < 32 ∧ x = nI j := by
  obtain ⟨j, hj, rfl⟩ := nI_of2 (M := 31) (n := 31) (by decide) (fun z => h (Or.inl z)) (Int32.not_lt.mp (fun z => h (Or.inr z)))
  exact ⟨j, by omega, rfl⟩
theorem ix31n {j : Nat} (h : j < 32) : ¬ (nI j < 0 ∨ 31 < nI j) := by
  rintro (z | z)
  · exact nI_pos (n := j) (by omega) z
  · exact absurd ((nI_ltI (a := 31) (b := j) (by omega) (by omega)).mp z) (by omega)
