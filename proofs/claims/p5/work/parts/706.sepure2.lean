def RN (fu : Int32) : Nat := min fu.toNatClampNeg 3000
theorem rn_le {fu : Int32} {k : Nat} (hk : k < 100000) (h : fu ≤ nI k) : RN fu ≤ k := by
  unfold RN
  by_cases h0 : fu < 0
  · rw [Int32.lt_iff_toInt_lt] at h0
    have : fu.toNatClampNeg = 0 := by
      show fu.toInt.toNat = 0
      have e : (0 : Int32).toInt = 0 := by decide
      omega
    omega
  · obtain ⟨j, hj, rfl⟩ := nI_of h0
    rw [nI_clamp hj]
    have := (nI_leI (a := j) (b := k) (by omega) (by omega)).mp h
    omega
theorem rn_lt {fu : Int32} {k : Nat} (hk : ¬ 3000 ≤ k) (h : ¬ fu ≤ nI k) : k < RN fu := by
  unfold RN
  have h0 : ¬ fu < 0 := fun z => h (by
    rw [Int32.lt_iff_toInt_lt] at z
    rw [Int32.le_iff_toInt_le]
    have e : (0 : Int32).toInt = 0 := by decide
    have e2 : ¬ (nI k).toInt < 0 := by
      have := nI_pos (n := k) (by omega)
      rw [Int32.lt_iff_toInt_lt] at this
      rw [e] at this
      exact this
    omega)
  obtain ⟨j, hj, rfl⟩ := nI_of h0
  rw [nI_clamp hj]
  have : ¬ j ≤ k := fun z => h (nI_le z (by omega))
  omega
theorem rn_b {fu : Int32} : RN fu ≤ 3000 := by unfold RN; omega
theorem run_step {sz N k : Nat} {fb : Nat → Int32} {s t : RS} {r : Int32} (hk : k < N) (he : enS s = 0) (h : ONEF sz fb s = (r, t)) : RUNF sz fb (N - (k + 1)) (if r = 0 then OVER 3 t else t) = RUNF sz fb (N - k) s := by
  rw [show N - k = N - (k + 1) + 1 from by omega]
  show _ = if enS s = 0 then _ else _
  rw [if_pos he, h]
theorem run_idle {sz : Nat} {fb : Nat → Int32} {s : RS} (he : ¬ enS s = 0) : ∀ n, RUNF sz fb n s = s := by
  intro n
  cases n with
  | zero => rfl
  | succ n => exact if_neg he
