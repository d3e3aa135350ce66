/-! the teller's pure rows, second part -/
theorem can_n {xl : Nat → Int32} {ct n i : Nat} (h : FLO xl) (hi : i < 8) (hc : ct ≤ 40) (hn : n ≤ 300) (hh : ¬ nI ct - nI n < xl i) : n ≤ ct := by
  obtain ⟨x, hx, e⟩ := h i hi
  rw [e] at hh
  have := take_n hc hn hx hh
  omega
theorem can_rm0 {xl : Nat → Int32} {ct i : Nat} {na : Int32} (h : FLO xl) (hi : i < 8) (hb : BT na) (hc : ct ≤ 40) (hh : ¬ nI ct - na < xl i) : ∃ y, y ≤ 41 ∧ nI (ct - 0) - na = nI y := by
  obtain ⟨x, hx, e⟩ := h i hi
  rw [e] at hh
  exact rm_0 hb hc hx hh
theorem can_rm1 {xl : Nat → Int32} {ct i : Nat} {na : Int32} (h : FLO xl) (hi : i < 8) (hb : BT na) (hc : ct ≤ 40) (h1 : 1 ≤ ct) (hh : ¬ nI ct - (na + 1) < xl i) : ∃ y, y ≤ 41 ∧ nI (ct - 1) - na = nI y := by
  obtain ⟨x, hx, e⟩ := h i hi
  rw [e] at hh
  exact rm_1 hb hc h1 hx hh
theorem GBq.q {m b : Int32} (h : GBq m b) : ∃ q, q ≤ 3 ∧ (b = m + 3 + nI (4 * q) ∨ (q = 0 ∧ ¬ m + 3 < b)) := by
  rcases h with ⟨q, hq, e⟩ | h
  · exact ⟨q, hq, Or.inl e⟩
  · exact ⟨0, by omega, Or.inr ⟨rfl, h⟩⟩
theorem gb_go {m b : Int32} {q i : Nat} (hq : q ≤ 3) (hg : b = m + 3 + nI (4 * q) ∨ (q = 0 ∧ ¬ m + 3 < b)) (hi : i ≤ q) (h : ¬ b ≤ m + 3 + nI (4 * i)) : i < q := by
  rcases hg with e | ⟨e, h2⟩
  · exact gb_step hq e hi h
  · exfalso
    obtain rfl : i = 0 := by omega
    rw [gb_0] at h
    exact h (Int32.not_lt.mp h2)
theorem mk_par {fpa g : Nat → Int32} {pr r : Int32} (h : PAR fpa) (hp : ON pr) (hh : (r = -1 ∧ g = fpa) ∨ ∃ j, j < 16 ∧ r = nI (16 + j) ∧ fpa j = -1 ∧ g = upd fpa j pr) : PAR g := by
  rcases hh with ⟨-, rfl⟩ | ⟨j, -, -, -, rfl⟩
  · exact h
  · exact h.up hp
theorem sl_ix {x : Int32} (h0 : ¬ x < 0) (h2 : x < 2) : ∃ j, j ≤ 1 ∧ x = nI j := by
  obtain ⟨j, hj, rfl⟩ := nI_of h0
  exact ⟨j, Nat.le_of_lt_succ (Nat.lt_of_not_le (fun z => nI_nlt (a := j) (b := 2) z hj h2)), rfl⟩
theorem sl_ix2 {x : Int32} (h0 : ¬ x < 0) (h2 : ¬ 2 ≤ x) : ∃ j, j ≤ 1 ∧ x = nI j := by
  obtain ⟨j, hj, rfl⟩ := nI_of h0
  exact ⟨j, Nat.le_of_lt_succ (Nat.lt_of_not_le (fun z => h2 (nI_le (a := 2) (b := j) z hj))), rfl⟩
theorem pr_ix {x : Int32} (h0 : ¬ x < 0) (h8 : x < 8) : ∃ j, j < 8 ∧ x = nI j := by
  obtain ⟨j, hj, rfl⟩ := nI_of h0
  exact ⟨j, Nat.lt_of_not_le (fun z => nI_nlt (a := j) (b := 8) z hj h8), rfl⟩
