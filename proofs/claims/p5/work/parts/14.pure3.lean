theorem made_ix {x : Int32} (h1 : ¬ x < 16) (h2 : ¬ 32 ≤ x) : ∃ j, 16 ≤ j ∧ j < 32 ∧ x = nI j := by
  have a0 : (0 : Int32).toInt = 0 := by decide
  have a1 : (16 : Int32).toInt = 16 := by decide
  have b1 : ¬ x < 0 := by
    simp only [Int32.lt_iff_toInt_lt] at h1 ⊢
    omega
  obtain ⟨j, hj, rfl⟩ := nI_of b1
  refine ⟨j, Nat.le_of_not_lt (fun z => h1 (nI_lt (a := j) (b := 16) z (by omega))), Nat.lt_of_not_le (fun z => h2 (nI_le (a := 32) (b := j) z hj)), rfl⟩
