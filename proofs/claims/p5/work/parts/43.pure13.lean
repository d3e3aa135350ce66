/-! the teller's pure rows -/
theorem sw_no2 {x : Int32} (lo hi : Nat) (hn : hi < 1000) (h : ∀ k, lo ≤ k → k ≤ hi → ¬ x = nI k) : x.toInt < (lo : Int) ∨ (hi : Int) < x.toInt := by
  rcases Int.lt_or_le x.toInt lo with h1 | h1
  · exact Or.inl h1
  · rcases Int.lt_or_le hi x.toInt with h2 | h2
    · exact Or.inr h2
    · exfalso
      refine h x.toInt.toNat (by omega) (by omega) (Int32.toInt_inj.mp ?_)
      rw [nI_toInt (by omega)]
      omega
def FLO (xl : Nat → Int32) : Prop := ∀ i, i < 8 → ∃ x, x ≤ 40 ∧ xl i = nI x
def BAS (xa : Nat → Int32) : Prop := ∀ i, i < 8 → ∃ x, x ≤ 41 ∧ xa i = nI x
def GBq (m b : Int32) : Prop := (∃ q, q ≤ 3 ∧ b = m + 3 + nI (4 * q)) ∨ ¬ m + 3 < b
def FI (xm xb xa xl : Nat → Int32) : Prop := (∀ i, i < 8 → GBq (xm i) (xb i)) ∧ BAS xa ∧ FLO xl
theorem FI.enter {xm xb xa xl : Nat → Int32} {i x y q : Nat} {m : Int32} (h : FI xm xb xa xl) (hx : x ≤ 40) (hy : y ≤ 41) (hq : q ≤ 3) : FI (upd xm i m) (upd xb i (m + 3 + 4 * nI q)) (upd xa i (nI y)) (upd xl i (nI x)) := by
  refine ⟨fun j hj => ?_, fun j hj => ?_, fun j hj => ?_⟩
  · by_cases e : j = i
    · subst e; rw [pk_us, pk_us]; exact Or.inl ⟨q, hq, by rw [← pk_mul 4 q]; rfl⟩
    · rw [pk_un e, pk_un e]; exact h.1 j hj
  · by_cases e : j = i
    · subst e; rw [pk_us]; exact ⟨y, hy, rfl⟩
    · rw [pk_un e]; exact h.2.1 j hj
  · by_cases e : j = i
    · subst e; rw [pk_us]; exact ⟨x, hx, rfl⟩
    · rw [pk_un e]; exact h.2.2 j hj
theorem take_n {ct n x : Nat} (hc : ct ≤ 40) (hn : n ≤ 300) (hx : x ≤ 40) (h : ¬ nI ct - nI n < nI x) : x + n ≤ ct := by
  rw [Int32.lt_iff_toInt_lt, pk_sub_toInt (by omega) (by omega), nI_toInt (by omega)] at h
  omega
theorem rm_0 {na : Int32} {ct x : Nat} (hb : BT na) (hc : ct ≤ 40) (hx : x ≤ 40) (h : ¬ nI ct - na < nI x) : ∃ y, y ≤ 41 ∧ nI (ct - 0) - na = nI y := by
  rcases hb with rfl | ⟨b, hb, rfl⟩
  · exact ⟨ct + 1, by omega, by rw [Nat.sub_zero, Int32.sub_neg]; exact nI_add ct 1⟩
  · have := take_n hc (by omega) hx h
    exact ⟨ct - b, by omega, by rw [Nat.sub_zero]; exact pk_sub (by omega)⟩
theorem rm_1 {na : Int32} {ct x : Nat} (hb : BT na) (hc : ct ≤ 40) (h1 : 1 ≤ ct) (hx : x ≤ 40) (h : ¬ nI ct - (na + 1) < nI x) : ∃ y, y ≤ 41 ∧ nI (ct - 1) - na = nI y := by
  rcases hb with rfl | ⟨b, hb, rfl⟩
  · exact ⟨ct, by omega, by rw [Int32.sub_neg]; exact (nI_add (ct - 1) 1).trans (by rw [show ct - 1 + 1 = ct from by omega])⟩
  · rw [nI_1] at h
    have := take_n hc (by omega) hx h
    exact ⟨ct - 1 - b, by omega, pk_sub (by omega)⟩
/-- whether a method stands there -/
def ISM (fb : Nat → Int32) (ln : Nat) (ad ag : Int32) : Prop := ¬ 3 < ag ∧ satv fb ln ad = ag ∧ ¬ satv fb ln (ad + 1) = -1 ∧ ¬ 3 < satv fb ln (ad + 1) ∧ ¬ satv fb ln (ad + 2) = -1 ∧ ¬ 3 < satv fb ln (ad + 2) ∧ ¬ nI ln < ad + 3 + 4 * satv fb ln (ad + 2)
theorem ISM.lo {fb : Nat → Int32} {ln : Nat} {ad ag : Int32} (hB : BY fb) (hl : ln ≤ 300) (h : ISM fb ln ad ag) : (∃ q, q ≤ 3 ∧ satv fb ln (ad + 1) = nI q) ∧ ∃ q, q ≤ 3 ∧ satv fb ln (ad + 2) = nI q :=
  ⟨(satv_bt hB hl).small h.2.2.1 h.2.2.2.1, (satv_bt hB hl).small h.2.2.2.2.1 h.2.2.2.2.2.1⟩
/-- a local's place -/
theorem loc_ix {x y : Nat} {k : Int32} (hx : x ≤ 40) (hy : y ≤ 41) (h0 : ¬ k < 0) (h1 : ¬ nI x - nI y ≤ k) : ∃ z, z < 40 ∧ nI y + k = nI z := by
  obtain ⟨j, hj, rfl⟩ := nI_of h0
  rw [Int32.le_iff_toInt_le, pk_sub_toInt (by omega) (by omega), nI_toInt hj] at h1
  exact ⟨y + j, by omega, nI_add y j⟩
theorem bt_lt {x : Int32} {n : Nat} (hb : BT x) (hn : n ≤ 1000) (h1 : ¬ x = -1) (h2 : ¬ nI n ≤ x) : ∃ b, b < n ∧ x = nI b := by
  rcases hb with h | ⟨b, hb, rfl⟩
  · exact absurd h h1
  · exact ⟨b, Nat.lt_of_not_le (fun z => h2 (nI_le z (by omega))), rfl⟩
theorem gb_step {m b : Int32} {q i : Nat} (hq : q ≤ 3) (hb : b = m + 3 + nI (4 * q)) (hi : i ≤ q) (h : ¬ b ≤ m + 3 + nI (4 * i)) : i < q := by
  rcases Nat.lt_or_ge i q with z | z
  · exact z
  · exfalso
    have : i = q := by omega
    subst this
    rw [hb] at h
    exact h (Int32.le_refl _)
theorem gb_inc (m : Int32) (i : Nat) : m + 3 + nI (4 * i) + Int32.ofInt 4 = m + 3 + nI (4 * (i + 1)) := by
  rw [Int32.add_assoc, show nI (4 * i) + Int32.ofInt 4 = nI (4 * (i + 1)) from (nI_add (4 * i) 4).trans (by rw [show 4 * i + 4 = 4 * (i + 1) from by omega])]
theorem gb_0 (m : Int32) : m + 3 + nI (4 * 0) = m + 3 := by
  show m + 3 + 0 = m + 3
  rw [Int32.add_zero]
theorem lt_gt {a b : Int32} (h : ¬ a < b) : b ≤ a := Int32.not_lt.mp h
