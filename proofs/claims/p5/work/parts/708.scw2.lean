/-! whose own value it is, in the class -/
def OWK (f fkd : Nat → Int32) : Prop := ∀ o, o < 32 → ∀ p, p < 8 → (¬ fkd (o * 8 + p) = -1 ↔ f (29 * o + 5 + 3 * p) = 1)
theorem dr_s {g : Nat → Int32} {n k q : Nat} (hk : k < n) (hg : g k = nI q) (hq : q < 32) : (lst g n).drop k = q :: (lst g n).drop (k + 1) := by
  have hl : k < (lst g n).length := by simp [lst]; exact hk
  rw [List.drop_eq_getElem_cons hl]
  congr 1
  show (lst g n)[k] = q
  simp only [lst, List.getElem_map, List.getElem_range]
  rw [hg]
  exact nI_clamp (by omega)
theorem dr_e {g : Nat → Int32} {n : Nat} : (lst g n).drop n = [] := List.drop_eq_nil_of_le (by simp [lst])
theorem fd_yes {f g : Nat → Int32} {p n k q : Nat} (hk : k < n) (hg : g k = nI q) (hq : q < 32) (h : f (29 * q + 5 + 3 * p) = 1) : fnd f p ((lst g n).drop k) = some q := by
  rw [dr_s hk hg hq]
  exact List.find?_cons_of_pos (by simpa using h)
theorem fd_no {f g : Nat → Int32} {p n k q : Nat} (hk : k < n) (hg : g k = nI q) (hq : q < 32) (h : ¬ f (29 * q + 5 + 3 * p) = 1) : fnd f p ((lst g n).drop k) = fnd f p ((lst g n).drop (k + 1)) := by
  rw [dr_s hk hg hq]
  exact List.find?_cons_of_neg (by simpa using h)
theorem fd_end {f g : Nat → Int32} {p n : Nat} : fnd f p ((lst g n).drop n) = none := by rw [dr_e]; rfl
