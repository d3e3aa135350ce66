/-! pure rows, the second part -/
def BY (f : Nat → Int32) : Prop := ∀ j, j < 300 → ∃ b, b ≤ 255 ∧ f j = nI b
theorem BY.up {f : Nat → Int32} (h : BY f) (k : Nat) {x : Int32} (hx : ∃ b, b ≤ 255 ∧ x = nI b) : BY (upd f k x) := by
  intro j hj
  by_cases hjk : j = k
  · subst hjk
    rw [pk_us]
    exact hx
  · rw [pk_un hjk]
    exact h j hj
theorem by_and (x : Int32) : ∃ b, b ≤ 255 ∧ x &&& 255 = nI b := by
  obtain ⟨j, hj, h⟩ := pk_andE x (m := 255) 8 (by decide)
  exact ⟨j, by omega, h⟩
theorem ip_end {fw : Nat → Int32} {a : Int32} (h1 : ¬ (a < 0 ∨ 15 < a)) (h2 : ∃ j, j < 32 ∧ a = nI j ∧ fw (29 * j) = 1) : ∃ j, j < 16 ∧ a = nI j ∧ fw (29 * j) = 1 := by
  obtain ⟨j, hj, rfl, hw⟩ := h2
  refine ⟨j, Nat.lt_of_not_le (fun z => h1 (Or.inr ?_)), rfl, hw⟩
  exact nI_lt (a := 15) (b := j) (by omega) (by omega)
/-- height - 1 and such, for any height -/
theorem hi_ix {n : Nat} {x : Int32} (hs : n ≤ 300) (h : ¬ (x < 0 ∨ nI n - 1 < x)) : ∃ j, j < n ∧ x = nI j := at_ix hs h
theorem so_ok {fb : Nat → Int32} {sz_ n0 : Nat} {ad r1 r2 r3 r4 : Int32} (hB : BY fb) (hsz : sz_ ≤ 300) (hn : n0 ≤ 3) (f1 : r1 = 1000 ∨ ∃ j, j < sz_ ∧ ad = nI j ∧ r1 = fb j) (f2 : r2 = 1000 ∨ ∃ j, j < sz_ ∧ ad + 1 = nI j ∧ r2 = fb j) (f3 : r3 = 1000 ∨ ∃ j, j < sz_ ∧ ad + 2 = nI j ∧ r3 = fb j) (f4 : r4 = 1000 ∨ ∃ j, j < sz_ ∧ ad + 2 = nI j ∧ r4 = fb j)
    (h1 : r1 = nI n0) (h2 : ¬ 4 ≤ r2) (h3 : ¬ 4 ≤ r3) (h4 : ¬ nI sz_ < ad + 3 + 4 * r4) : ∃ j lo q, ad = nI j ∧ fb (j + 1) = nI lo ∧ lo ≤ 3 ∧ fb (j + 2) = nI q ∧ q ≤ 3 ∧ j + 3 + 4 * q ≤ sz_ := by
  have big : ¬ (1000 : Int32) = nI n0 := by
    intro z
    have := (nI_eq (a := 1000) (b := n0) (by omega) (by omega)).mp z
    omega
  have k4 : (4 : Int32) ≤ 1000 := by decide
  obtain ⟨j, hj, rfl, e1⟩ : ∃ j, j < sz_ ∧ ad = nI j ∧ r1 = fb j := by
    rcases f1 with f1 | f1
    · exact absurd (f1.symm.trans h1) big
    · exact f1
  obtain ⟨j2, hj2, a2, e2⟩ : ∃ i, i < sz_ ∧ nI j + 1 = nI i ∧ r2 = fb i := by
    rcases f2 with f2 | f2
    · exact absurd (by rw [f2]; exact k4) h2
    · exact f2
  obtain ⟨j3, hj3, a3, e3⟩ : ∃ i, i < sz_ ∧ nI j + 2 = nI i ∧ r3 = fb i := by
    rcases f3 with f3 | f3
    · exact absurd (by rw [f3]; exact k4) h3
    · exact f3
  have i2 : j + 1 = j2 := (nI_eq (by omega) (by omega)).mp ((nI_add j 1).symm.trans a2)
  have i3 : j + 2 = j3 := (nI_eq (by omega) (by omega)).mp ((nI_add j 2).symm.trans a3)
  subst i2
  subst i3
  have e4 : r4 = fb (j + 2) := by
    rcases f4 with f4 | ⟨i, hi, ai, e4⟩
    · exfalso
      rw [f4] at h4
      have e5 : nI j + 3 + 4 * (1000 : Int32) = nI (j + 4003) := by
        rw [show (4 : Int32) * 1000 = nI 4000 from by decide, show (3 : Int32) = nI 3 from rfl, nI_add, nI_add]
      rw [e5] at h4
      exact h4 (nI_lt (by omega) (by omega))
    · have i4 : j + 2 = i := (nI_eq (by omega) (by omega)).mp ((nI_add j 2).symm.trans ai)
      rw [i4]
      exact e4
  obtain ⟨lo, hlo, l1⟩ := hB (j + 1) (by omega)
  obtain ⟨q, hq, l2⟩ := hB (j + 2) (by omega)
  refine ⟨j, lo, q, rfl, l1, ?_, l2, ?_, ?_⟩
  · rw [e2, l1] at h2
    have h9 : ¬ 4 ≤ lo := fun z => h2 ((nI_leI (a := 4) (b := lo) (by omega) (by omega)).mpr z)
    omega
  · rw [e3, l2] at h3
    have h9 : ¬ 4 ≤ q := fun z => h3 ((nI_leI (a := 4) (b := q) (by omega) (by omega)).mpr z)
    omega
  · rw [e4, l2] at h4
    have e5 : nI j + 3 + 4 * nI q = nI (j + 3 + 4 * q) := by
      rw [show (4 : Int32) = nI 4 from rfl, show (3 : Int32) = nI 3 from rfl, pk_mul, nI_add, nI_add]
    rw [e5] at h4
    have h9 : ¬ sz_ < j + 3 + 4 * q := fun z => h4 ((nI_ltI (a := sz_) (b := j + 3 + 4 * q) (by omega) (by omega)).mpr z)
    omega
theorem sat_ix {n : Nat} {x : Int32} (hs : n ≤ 300) (h1 : ¬ x < 0) (h2 : ¬ nI n ≤ x) : ∃ j, j < n ∧ x = nI j := by
  obtain ⟨j, hj, rfl⟩ := nI_of h1
  exact ⟨j, Nat.lt_of_not_le (fun z => h2 (nI_le z hj)), rfl⟩
