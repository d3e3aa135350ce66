theorem there_ON {fx : Nat} {oo : Int32} {fpa : Nat → Int32} (hfx : fx ≤ 16) (h : (∃ j, j < fx ∧ oo = nI j) ∨ ∃ j, 16 ≤ j ∧ j < 32 ∧ oo = nI j ∧ fpa (j - 16) ≠ -1) : ON oo := by
  rcases h with ⟨j, hj, rfl⟩ | ⟨j, -, hj, rfl, -⟩
  · exact Or.inr ⟨j, by omega, rfl⟩
  · exact Or.inr ⟨j, hj, rfl⟩
