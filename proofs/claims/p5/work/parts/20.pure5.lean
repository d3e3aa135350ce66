/-- a value that names an object, or none -/
def ON (x : Int32) : Prop := x = -1 ∨ ∃ q, q < 32 ∧ x = nI q
def PAR (f : Nat → Int32) : Prop := ∀ j, j < 16 → ON (f j)
/-- the first n of a row are numbers of objects -/
def ROW (g : Nat → Int32) (n : Nat) : Prop := ∀ i, i < n → ∃ q, q < 32 ∧ g i = nI q
def FLN (ffn : Nat → Int32) : Prop := ∀ i, i < 16 → ∃ m, m ≤ 16 ∧ ffn i = nI m
def FLL (ffl : Nat → Int32) : Prop := ∀ i, i < 256 → ∃ q, q < 32 ∧ ffl i = nI q
theorem ON.made {x : Int32} (h : ON x) (h1 : ¬ x < 16) : ∃ q, 16 ≤ q ∧ q < 32 ∧ x = nI q := by
  rcases h with h | ⟨q, hq, rfl⟩
  · exact absurd (by rw [h]; decide) h1
  · exact ⟨q, Nat.le_of_not_lt (fun z => h1 (nI_lt (a := q) (b := 16) z (by omega))), hq, rfl⟩
theorem ROW.up {g : Nat → Int32} {n q : Nat} (h : ROW g n) (hq : q < 32) : ROW (upd g n (nI q)) (n + 1) := by
  intro i hi
  by_cases hin : i = n
  · subst hin
    rw [pk_us]
    exact ⟨q, hq, rfl⟩
  · rw [pk_un hin]
    exact h i (by omega)
theorem ROW.cpy {f g : Nat → Int32} {n x m : Nat} (hf : FLL f) (hx : x + m ≤ 256) (h : ROW g n) : ROW (va_cpy f g x n m) (n + m) := by
  intro i hi
  by_cases hin : n ≤ i
  · rw [pk_cpy_in hin (by omega)]
    exact hf _ (by omega)
  · rw [pk_cpy_out (Or.inl (by omega))]
    exact h i (by omega)
