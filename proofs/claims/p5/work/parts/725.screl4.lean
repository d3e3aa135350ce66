theorem ONE_0 {sz : Nat} {fb : Nat → Int32} {he de po sd : Nat} {en rk rn : Int32} {fk fn fbe fta fba flo fse ffo fpl fne fsk fsn fw fs : Nat → Int32} (hv : VLD sz fb (fpl (de - 1))) (hop : ab fb sz (fpl (de - 1)) = 0) : ONEC sz fb he de po sd en rk rn fk fn fbe fta fba flo fse ffo fpl fne fsk fsn fw fs = GOF (de - 1) (Q_0 sz fb (fpl (de - 1) + 1) he de po sd en rk rn fk fn fbe fta fba flo fse ffo fpl (upd fne (de - 1) (fpl (de - 1) + nI 1)) fsk fsn fw fs) := by
  unfold ONEC OPF
  rw [if_pos hv, hop]
  rfl
theorem ONE_1 {sz : Nat} {fb : Nat → Int32} {he de po sd : Nat} {en rk rn : Int32} {fk fn fbe fta fba flo fse ffo fpl fne fsk fsn fw fs : Nat → Int32} (hv : VLD sz fb (fpl (de - 1))) (hop : ab fb sz (fpl (de - 1)) = 1) : ONEC sz fb he de po sd en rk rn fk fn fbe fta fba flo fse ffo fpl fne fsk fsn fw fs = GOF (de - 1) (Q_1 sz fb (fpl (de - 1) + 1) he de po sd en rk rn fk fn fbe fta fba flo fse ffo fpl (upd fne (de - 1) (fpl (de - 1) + nI 2)) fsk fsn fw fs) := by
  unfold ONEC OPF
  rw [if_pos hv, hop]
  rfl
theorem ONE_2 {sz : Nat} {fb : Nat → Int32} {he de po sd : Nat} {en rk rn : Int32} {fk fn fbe fta fba flo fse ffo fpl fne fsk fsn fw fs : Nat → Int32} (hv : VLD sz fb (fpl (de - 1))) (hop : ab fb sz (fpl (de - 1)) = 2) : ONEC sz fb he de po sd en rk rn fk fn fbe fta fba flo fse ffo fpl fne fsk fsn fw fs = GOF (de - 1) (Q_2 sz fb (fpl (de - 1) + 1) he de po sd en rk rn fk fn fbe fta fba flo fse ffo fpl (upd fne (de - 1) (fpl (de - 1) + nI 5)) fsk fsn fw fs) := by
  unfold ONEC OPF
  rw [if_pos hv, hop]
  rfl
theorem ONE_3 {sz : Nat} {fb : Nat → Int32} {he de po sd : Nat} {en rk rn : Int32} {fk fn fbe fta fba flo fse ffo fpl fne fsk fsn fw fs : Nat → Int32} (hv : VLD sz fb (fpl (de - 1))) (hop : ab fb sz (fpl (de - 1)) = 3) : ONEC sz fb he de po sd en rk rn fk fn fbe fta fba flo fse ffo fpl fne fsk fsn fw fs = GOF (de - 1) (Q_3 sz fb (fpl (de - 1) + 1) he de po sd en rk rn fk fn fbe fta fba flo fse ffo fpl (upd fne (de - 1) (fpl (de - 1) + nI 1)) fsk fsn fw fs) := by
  unfold ONEC OPF
  rw [if_pos hv, hop]
  rfl
theorem ONE_4 {sz : Nat} {fb : Nat → Int32} {he de po sd : Nat} {en rk rn : Int32} {fk fn fbe fta fba flo fse ffo fpl fne fsk fsn fw fs : Nat → Int32} (hv : VLD sz fb (fpl (de - 1))) (hop : ab fb sz (fpl (de - 1)) = 4) : ONEC sz fb he de po sd en rk rn fk fn fbe fta fba flo fse ffo fpl fne fsk fsn fw fs = GOF (de - 1) (Q_4 sz fb (fpl (de - 1) + 1) he de po sd en rk rn fk fn fbe fta fba flo fse ffo fpl (upd fne (de - 1) (fpl (de - 1) + nI 1)) fsk fsn fw fs) := by
  unfold ONEC OPF
  rw [if_pos hv, hop]
  rfl
theorem ONE_5 {sz : Nat} {fb : Nat → Int32} {he de po sd : Nat} {en rk rn : Int32} {fk fn fbe fta fba flo fse ffo fpl fne fsk fsn fw fs : Nat → Int32} (hv : VLD sz fb (fpl (de - 1))) (hop : ab fb sz (fpl (de - 1)) = 5) : ONEC sz fb he de po sd en rk rn fk fn fbe fta fba flo fse ffo fpl fne fsk fsn fw fs = GOF (de - 1) (Q_5 sz fb (fpl (de - 1) + 1) he de po sd en rk rn fk fn fbe fta fba flo fse ffo fpl (upd fne (de - 1) (fpl (de - 1) + nI 2)) fsk fsn fw fs) := by
  unfold ONEC OPF
  rw [if_pos hv, hop]
  rfl
theorem ONE_6 {sz : Nat} {fb : Nat → Int32} {he de po sd : Nat} {en rk rn : Int32} {fk fn fbe fta fba flo fse ffo fpl fne fsk fsn fw fs : Nat → Int32} (hv : VLD sz fb (fpl (de - 1))) (hop : ab fb sz (fpl (de - 1)) = 6) : ONEC sz fb he de po sd en rk rn fk fn fbe fta fba flo fse ffo fpl fne fsk fsn fw fs = GOF (de - 1) (Q_6 sz fb (fpl (de - 1) + 1) he de po sd en rk rn fk fn fbe fta fba flo fse ffo fpl (upd fne (de - 1) (fpl (de - 1) + nI 3)) fsk fsn fw fs) := by
  unfold ONEC OPF
  rw [if_pos hv, hop]
  rfl
theorem ONE_7 {sz : Nat} {fb : Nat → Int32} {he de po sd : Nat} {en rk rn : Int32} {fk fn fbe fta fba flo fse ffo fpl fne fsk fsn fw fs : Nat → Int32} (hv : VLD sz fb (fpl (de - 1))) (hop : ab fb sz (fpl (de - 1)) = 7) : ONEC sz fb he de po sd en rk rn fk fn fbe fta fba flo fse ffo fpl fne fsk fsn fw fs = GOF (de - 1) (Q_7 sz fb (fpl (de - 1) + 1) he de po sd en rk rn fk fn fbe fta fba flo fse ffo fpl (upd fne (de - 1) (fpl (de - 1) + nI 2)) fsk fsn fw fs) := by
  unfold ONEC OPF
  rw [if_pos hv, hop]
  rfl
theorem ONE_8 {sz : Nat} {fb : Nat → Int32} {he de po sd : Nat} {en rk rn : Int32} {fk fn fbe fta fba flo fse ffo fpl fne fsk fsn fw fs : Nat → Int32} (hv : VLD sz fb (fpl (de - 1))) (hop : ab fb sz (fpl (de - 1)) = 8) : ONEC sz fb he de po sd en rk rn fk fn fbe fta fba flo fse ffo fpl fne fsk fsn fw fs = GOF (de - 1) (Q_8 sz fb (fpl (de - 1) + 1) he de po sd en rk rn fk fn fbe fta fba flo fse ffo fpl (upd fne (de - 1) (fpl (de - 1) + nI 2)) fsk fsn fw fs) := by
  unfold ONEC OPF
  rw [if_pos hv, hop]
  rfl
theorem ONE_9 {sz : Nat} {fb : Nat → Int32} {he de po sd : Nat} {en rk rn : Int32} {fk fn fbe fta fba flo fse ffo fpl fne fsk fsn fw fs : Nat → Int32} (hv : VLD sz fb (fpl (de - 1))) (hop : ab fb sz (fpl (de - 1)) = 9) : ONEC sz fb he de po sd en rk rn fk fn fbe fta fba flo fse ffo fpl fne fsk fsn fw fs = GOF (de - 1) (Q_9 sz fb (fpl (de - 1) + 1) he de po sd en rk rn fk fn fbe fta fba flo fse ffo fpl (upd fne (de - 1) (fpl (de - 1) + nI 1)) fsk fsn fw fs) := by
  unfold ONEC OPF
  rw [if_pos hv, hop]
  rfl
theorem ONE_10 {sz : Nat} {fb : Nat → Int32} {he de po sd : Nat} {en rk rn : Int32} {fk fn fbe fta fba flo fse ffo fpl fne fsk fsn fw fs : Nat → Int32} (hv : VLD sz fb (fpl (de - 1))) (hop : ab fb sz (fpl (de - 1)) = 10) : ONEC sz fb he de po sd en rk rn fk fn fbe fta fba flo fse ffo fpl fne fsk fsn fw fs = GOF (de - 1) (Q_10 sz fb (fpl (de - 1) + 1) he de po sd en rk rn fk fn fbe fta fba flo fse ffo fpl (upd fne (de - 1) (fpl (de - 1) + nI 1)) fsk fsn fw fs) := by
  unfold ONEC OPF
  rw [if_pos hv, hop]
  rfl
theorem ONE_11 {sz : Nat} {fb : Nat → Int32} {he de po sd : Nat} {en rk rn : Int32} {fk fn fbe fta fba flo fse ffo fpl fne fsk fsn fw fs : Nat → Int32} (hv : VLD sz fb (fpl (de - 1))) (hop : ab fb sz (fpl (de - 1)) = 11) : ONEC sz fb he de po sd en rk rn fk fn fbe fta fba flo fse ffo fpl fne fsk fsn fw fs = GOF (de - 1) (Q_11 sz fb (fpl (de - 1) + 1) he de po sd en rk rn fk fn fbe fta fba flo fse ffo fpl (upd fne (de - 1) (fpl (de - 1) + nI 1)) fsk fsn fw fs) := by
  unfold ONEC OPF
  rw [if_pos hv, hop]
  rfl
theorem ONE_12 {sz : Nat} {fb : Nat → Int32} {he de po sd : Nat} {en rk rn : Int32} {fk fn fbe fta fba flo fse ffo fpl fne fsk fsn fw fs : Nat → Int32} (hv : VLD sz fb (fpl (de - 1))) (hop : ab fb sz (fpl (de - 1)) = 12) : ONEC sz fb he de po sd en rk rn fk fn fbe fta fba flo fse ffo fpl fne fsk fsn fw fs = GOF (de - 1) (Q_12 sz fb (fpl (de - 1) + 1) he de po sd en rk rn fk fn fbe fta fba flo fse ffo fpl (upd fne (de - 1) (fpl (de - 1) + nI 1)) fsk fsn fw fs) := by
  unfold ONEC OPF
  rw [if_pos hv, hop]
  rfl
theorem ONE_13 {sz : Nat} {fb : Nat → Int32} {he de po sd : Nat} {en rk rn : Int32} {fk fn fbe fta fba flo fse ffo fpl fne fsk fsn fw fs : Nat → Int32} (hv : VLD sz fb (fpl (de - 1))) (hop : ab fb sz (fpl (de - 1)) = 13) : ONEC sz fb he de po sd en rk rn fk fn fbe fta fba flo fse ffo fpl fne fsk fsn fw fs = GOF (de - 1) (Q_13 sz fb (fpl (de - 1) + 1) he de po sd en rk rn fk fn fbe fta fba flo fse ffo fpl (upd fne (de - 1) (fpl (de - 1) + nI 1)) fsk fsn fw fs) := by
  unfold ONEC OPF
  rw [if_pos hv, hop]
  rfl
theorem ONE_14 {sz : Nat} {fb : Nat → Int32} {he de po sd : Nat} {en rk rn : Int32} {fk fn fbe fta fba flo fse ffo fpl fne fsk fsn fw fs : Nat → Int32} (hv : VLD sz fb (fpl (de - 1))) (hop : ab fb sz (fpl (de - 1)) = 14) : ONEC sz fb he de po sd en rk rn fk fn fbe fta fba flo fse ffo fpl fne fsk fsn fw fs = GOF (de - 1) (Q_14 sz fb (fpl (de - 1) + 1) he de po sd en rk rn fk fn fbe fta fba flo fse ffo fpl (upd fne (de - 1) (fpl (de - 1) + nI 1)) fsk fsn fw fs) := by
  unfold ONEC OPF
  rw [if_pos hv, hop]
  rfl
theorem ONE_15 {sz : Nat} {fb : Nat → Int32} {he de po sd : Nat} {en rk rn : Int32} {fk fn fbe fta fba flo fse ffo fpl fne fsk fsn fw fs : Nat → Int32} (hv : VLD sz fb (fpl (de - 1))) (hop : ab fb sz (fpl (de - 1)) = 15) : ONEC sz fb he de po sd en rk rn fk fn fbe fta fba flo fse ffo fpl fne fsk fsn fw fs = Q_15 sz fb (fpl (de - 1) + 1) he de po sd en rk rn fk fn fbe fta fba flo fse ffo fpl (upd fne (de - 1) (fpl (de - 1) + nI 1)) fsk fsn fw fs := by
  unfold ONEC OPF
  rw [if_pos hv, hop]
  rfl
theorem ONE_16 {sz : Nat} {fb : Nat → Int32} {he de po sd : Nat} {en rk rn : Int32} {fk fn fbe fta fba flo fse ffo fpl fne fsk fsn fw fs : Nat → Int32} (hv : VLD sz fb (fpl (de - 1))) (hop : ab fb sz (fpl (de - 1)) = 16) : ONEC sz fb he de po sd en rk rn fk fn fbe fta fba flo fse ffo fpl fne fsk fsn fw fs = GOF (de - 1) (Q_16 sz fb (fpl (de - 1) + 1) he de po sd en rk rn fk fn fbe fta fba flo fse ffo fpl (upd fne (de - 1) (fpl (de - 1) + nI 1)) fsk fsn fw fs) := by
  unfold ONEC OPF
  rw [if_pos hv, hop]
  rfl
theorem ONE_17 {sz : Nat} {fb : Nat → Int32} {he de po sd : Nat} {en rk rn : Int32} {fk fn fbe fta fba flo fse ffo fpl fne fsk fsn fw fs : Nat → Int32} (hv : VLD sz fb (fpl (de - 1))) (hop : ab fb sz (fpl (de - 1)) = 17) : ONEC sz fb he de po sd en rk rn fk fn fbe fta fba flo fse ffo fpl fne fsk fsn fw fs = GOF (de - 1) (Q_17 sz fb (fpl (de - 1) + 1) he de po sd en rk rn fk fn fbe fta fba flo fse ffo fpl (upd fne (de - 1) (fpl (de - 1) + nI 1)) fsk fsn fw fs) := by
  unfold ONEC OPF
  rw [if_pos hv, hop]
  rfl
theorem ONE_18 {sz : Nat} {fb : Nat → Int32} {he de po sd : Nat} {en rk rn : Int32} {fk fn fbe fta fba flo fse ffo fpl fne fsk fsn fw fs : Nat → Int32} (hv : VLD sz fb (fpl (de - 1))) (hop : ab fb sz (fpl (de - 1)) = 18) : ONEC sz fb he de po sd en rk rn fk fn fbe fta fba flo fse ffo fpl fne fsk fsn fw fs = GOF (de - 1) (Q_18 sz fb (fpl (de - 1) + 1) he de po sd en rk rn fk fn fbe fta fba flo fse ffo fpl (upd fne (de - 1) (fpl (de - 1) + nI 1)) fsk fsn fw fs) := by
  unfold ONEC OPF
  rw [if_pos hv, hop]
  rfl
theorem ONE_19 {sz : Nat} {fb : Nat → Int32} {he de po sd : Nat} {en rk rn : Int32} {fk fn fbe fta fba flo fse ffo fpl fne fsk fsn fw fs : Nat → Int32} (hv : VLD sz fb (fpl (de - 1))) (hop : ab fb sz (fpl (de - 1)) = 19) : ONEC sz fb he de po sd en rk rn fk fn fbe fta fba flo fse ffo fpl fne fsk fsn fw fs = GOF (de - 1) (Q_19 sz fb (fpl (de - 1) + 1) he de po sd en rk rn fk fn fbe fta fba flo fse ffo fpl (upd fne (de - 1) (fpl (de - 1) + nI 2)) fsk fsn fw fs) := by
  unfold ONEC OPF
  rw [if_pos hv, hop]
  rfl
theorem ONE_20 {sz : Nat} {fb : Nat → Int32} {he de po sd : Nat} {en rk rn : Int32} {fk fn fbe fta fba flo fse ffo fpl fne fsk fsn fw fs : Nat → Int32} (hv : VLD sz fb (fpl (de - 1))) (hop : ab fb sz (fpl (de - 1)) = 20) : ONEC sz fb he de po sd en rk rn fk fn fbe fta fba flo fse ffo fpl fne fsk fsn fw fs = GOF (de - 1) (Q_20 sz fb (fpl (de - 1) + 1) he de po sd en rk rn fk fn fbe fta fba flo fse ffo fpl (upd fne (de - 1) (fpl (de - 1) + nI 2)) fsk fsn fw fs) := by
  unfold ONEC OPF
  rw [if_pos hv, hop]
  rfl
theorem ONE_21 {sz : Nat} {fb : Nat → Int32} {he de po sd : Nat} {en rk rn : Int32} {fk fn fbe fta fba flo fse ffo fpl fne fsk fsn fw fs : Nat → Int32} (hv : VLD sz fb (fpl (de - 1))) (hop : ab fb sz (fpl (de - 1)) = 21) : ONEC sz fb he de po sd en rk rn fk fn fbe fta fba flo fse ffo fpl fne fsk fsn fw fs = Q_21 sz fb (fpl (de - 1) + 1) he de po sd en rk rn fk fn fbe fta fba flo fse ffo fpl (upd fne (de - 1) (fpl (de - 1) + nI 3)) fsk fsn fw fs := by
  unfold ONEC OPF
  rw [if_pos hv, hop]
  rfl
theorem ONE_22 {sz : Nat} {fb : Nat → Int32} {he de po sd : Nat} {en rk rn : Int32} {fk fn fbe fta fba flo fse ffo fpl fne fsk fsn fw fs : Nat → Int32} (hv : VLD sz fb (fpl (de - 1))) (hop : ab fb sz (fpl (de - 1)) = 22) : ONEC sz fb he de po sd en rk rn fk fn fbe fta fba flo fse ffo fpl fne fsk fsn fw fs = GOF (de - 1) (Q_22 sz fb (fpl (de - 1) + 1) he de po sd en rk rn fk fn fbe fta fba flo fse ffo fpl (upd fne (de - 1) (fpl (de - 1) + nI 2)) fsk fsn fw fs) := by
  unfold ONEC OPF
  rw [if_pos hv, hop]
  rfl
theorem ONE_23 {sz : Nat} {fb : Nat → Int32} {he de po sd : Nat} {en rk rn : Int32} {fk fn fbe fta fba flo fse ffo fpl fne fsk fsn fw fs : Nat → Int32} (hv : VLD sz fb (fpl (de - 1))) (hop : ab fb sz (fpl (de - 1)) = 23) : ONEC sz fb he de po sd en rk rn fk fn fbe fta fba flo fse ffo fpl fne fsk fsn fw fs = Q_23 sz fb (fpl (de - 1) + 1) he de po sd en rk rn fk fn fbe fta fba flo fse ffo fpl (upd fne (de - 1) (fpl (de - 1) + nI 3)) fsk fsn fw fs := by
  unfold ONEC OPF
  rw [if_pos hv, hop]
  rfl
theorem ONE_24 {sz : Nat} {fb : Nat → Int32} {he de po sd : Nat} {en rk rn : Int32} {fk fn fbe fta fba flo fse ffo fpl fne fsk fsn fw fs : Nat → Int32} (hv : VLD sz fb (fpl (de - 1))) (hop : ab fb sz (fpl (de - 1)) = 24) : ONEC sz fb he de po sd en rk rn fk fn fbe fta fba flo fse ffo fpl fne fsk fsn fw fs = Q_24 sz fb (fpl (de - 1) + 1) he de po sd en rk rn fk fn fbe fta fba flo fse ffo fpl (upd fne (de - 1) (fpl (de - 1) + nI 4)) fsk fsn fw fs := by
  unfold ONEC OPF
  rw [if_pos hv, hop]
  rfl
theorem ONE_25 {sz : Nat} {fb : Nat → Int32} {he de po sd : Nat} {en rk rn : Int32} {fk fn fbe fta fba flo fse ffo fpl fne fsk fsn fw fs : Nat → Int32} (hv : VLD sz fb (fpl (de - 1))) (hop : ab fb sz (fpl (de - 1)) = 25) : ONEC sz fb he de po sd en rk rn fk fn fbe fta fba flo fse ffo fpl fne fsk fsn fw fs = Q_25 sz fb (fpl (de - 1) + 1) he de po sd en rk rn fk fn fbe fta fba flo fse ffo fpl (upd fne (de - 1) (fpl (de - 1) + nI 1)) fsk fsn fw fs := by
  unfold ONEC OPF
  rw [if_pos hv, hop]
  rfl
theorem ONE_26 {sz : Nat} {fb : Nat → Int32} {he de po sd : Nat} {en rk rn : Int32} {fk fn fbe fta fba flo fse ffo fpl fne fsk fsn fw fs : Nat → Int32} (hv : VLD sz fb (fpl (de - 1))) (hop : ab fb sz (fpl (de - 1)) = 26) : ONEC sz fb he de po sd en rk rn fk fn fbe fta fba flo fse ffo fpl fne fsk fsn fw fs = Q_26 sz fb (fpl (de - 1) + 1) he de po sd en rk rn fk fn fbe fta fba flo fse ffo fpl (upd fne (de - 1) (fpl (de - 1) + nI 1)) fsk fsn fw fs := by
  unfold ONEC OPF
  rw [if_pos hv, hop]
  rfl
theorem ONE_27 {sz : Nat} {fb : Nat → Int32} {he de po sd : Nat} {en rk rn : Int32} {fk fn fbe fta fba flo fse ffo fpl fne fsk fsn fw fs : Nat → Int32} (hv : VLD sz fb (fpl (de - 1))) (hop : ab fb sz (fpl (de - 1)) = 27) : ONEC sz fb he de po sd en rk rn fk fn fbe fta fba flo fse ffo fpl fne fsk fsn fw fs = Q_27 sz fb (fpl (de - 1) + 1) he de po sd en rk rn fk fn fbe fta fba flo fse ffo fpl (upd fne (de - 1) (fpl (de - 1) + nI 1)) fsk fsn fw fs := by
  unfold ONEC OPF
  rw [if_pos hv, hop]
  rfl
theorem ONE_28 {sz : Nat} {fb : Nat → Int32} {he de po sd : Nat} {en rk rn : Int32} {fk fn fbe fta fba flo fse ffo fpl fne fsk fsn fw fs : Nat → Int32} (hv : VLD sz fb (fpl (de - 1))) (hop : ab fb sz (fpl (de - 1)) = 28) : ONEC sz fb he de po sd en rk rn fk fn fbe fta fba flo fse ffo fpl fne fsk fsn fw fs = GOF (de - 1) (Q_28 sz fb (fpl (de - 1) + 1) he de po sd en rk rn fk fn fbe fta fba flo fse ffo fpl (upd fne (de - 1) (fpl (de - 1) + nI 2)) fsk fsn fw fs) := by
  unfold ONEC OPF
  rw [if_pos hv, hop]
  rfl
theorem ONE_29 {sz : Nat} {fb : Nat → Int32} {he de po sd : Nat} {en rk rn : Int32} {fk fn fbe fta fba flo fse ffo fpl fne fsk fsn fw fs : Nat → Int32} (hv : VLD sz fb (fpl (de - 1))) (hop : ab fb sz (fpl (de - 1)) = 29) : ONEC sz fb he de po sd en rk rn fk fn fbe fta fba flo fse ffo fpl fne fsk fsn fw fs = GOF (de - 1) (Q_29 sz fb (fpl (de - 1) + 1) he de po sd en rk rn fk fn fbe fta fba flo fse ffo fpl (upd fne (de - 1) (fpl (de - 1) + nI 2)) fsk fsn fw fs) := by
  unfold ONEC OPF
  rw [if_pos hv, hop]
  rfl
theorem ONE_30 {sz : Nat} {fb : Nat → Int32} {he de po sd : Nat} {en rk rn : Int32} {fk fn fbe fta fba flo fse ffo fpl fne fsk fsn fw fs : Nat → Int32} (hv : VLD sz fb (fpl (de - 1))) (hop : ab fb sz (fpl (de - 1)) = 30) : ONEC sz fb he de po sd en rk rn fk fn fbe fta fba flo fse ffo fpl fne fsk fsn fw fs = GOF (de - 1) (Q_30 sz fb (fpl (de - 1) + 1) he de po sd en rk rn fk fn fbe fta fba flo fse ffo fpl (upd fne (de - 1) (fpl (de - 1) + nI 1)) fsk fsn fw fs) := by
  unfold ONEC OPF
  rw [if_pos hv, hop]
  rfl
theorem ONE_31 {sz : Nat} {fb : Nat → Int32} {he de po sd : Nat} {en rk rn : Int32} {fk fn fbe fta fba flo fse ffo fpl fne fsk fsn fw fs : Nat → Int32} (hv : VLD sz fb (fpl (de - 1))) (hop : ab fb sz (fpl (de - 1)) = 31) : ONEC sz fb he de po sd en rk rn fk fn fbe fta fba flo fse ffo fpl fne fsk fsn fw fs = GOF (de - 1) (Q_31 sz fb (fpl (de - 1) + 1) he de po sd en rk rn fk fn fbe fta fba flo fse ffo fpl (upd fne (de - 1) (fpl (de - 1) + nI 1)) fsk fsn fw fs) := by
  unfold ONEC OPF
  rw [if_pos hv, hop]
  rfl
theorem ONE_32 {sz : Nat} {fb : Nat → Int32} {he de po sd : Nat} {en rk rn : Int32} {fk fn fbe fta fba flo fse ffo fpl fne fsk fsn fw fs : Nat → Int32} (hv : VLD sz fb (fpl (de - 1))) (hop : ab fb sz (fpl (de - 1)) = 32) : ONEC sz fb he de po sd en rk rn fk fn fbe fta fba flo fse ffo fpl fne fsk fsn fw fs = GOF (de - 1) (Q_32 sz fb (fpl (de - 1) + 1) he de po sd en rk rn fk fn fbe fta fba flo fse ffo fpl (upd fne (de - 1) (fpl (de - 1) + nI 1)) fsk fsn fw fs) := by
  unfold ONEC OPF
  rw [if_pos hv, hop]
  rfl
theorem ONE_33 {sz : Nat} {fb : Nat → Int32} {he de po sd : Nat} {en rk rn : Int32} {fk fn fbe fta fba flo fse ffo fpl fne fsk fsn fw fs : Nat → Int32} (hv : VLD sz fb (fpl (de - 1))) (hop : ab fb sz (fpl (de - 1)) = 33) : ONEC sz fb he de po sd en rk rn fk fn fbe fta fba flo fse ffo fpl fne fsk fsn fw fs = GOF (de - 1) (Q_33 sz fb (fpl (de - 1) + 1) he de po sd en rk rn fk fn fbe fta fba flo fse ffo fpl (upd fne (de - 1) (fpl (de - 1) + nI 2)) fsk fsn fw fs) := by
  unfold ONEC OPF
  rw [if_pos hv, hop]
  rfl
theorem ONE_34 {sz : Nat} {fb : Nat → Int32} {he de po sd : Nat} {en rk rn : Int32} {fk fn fbe fta fba flo fse ffo fpl fne fsk fsn fw fs : Nat → Int32} (hv : VLD sz fb (fpl (de - 1))) (hop : ab fb sz (fpl (de - 1)) = 34) : ONEC sz fb he de po sd en rk rn fk fn fbe fta fba flo fse ffo fpl fne fsk fsn fw fs = GOF (de - 1) (Q_34 sz fb (fpl (de - 1) + 1) he de po sd en rk rn fk fn fbe fta fba flo fse ffo fpl (upd fne (de - 1) (fpl (de - 1) + nI 2)) fsk fsn fw fs) := by
  unfold ONEC OPF
  rw [if_pos hv, hop]
  rfl
theorem ONE_no {sz : Nat} {fb : Nat → Int32} {he de po sd : Nat} {en rk rn : Int32} {fk fn fbe fta fba flo fse ffo fpl fne fsk fsn fw fs : Nat → Int32} (hv : ¬ VLD sz fb (fpl (de - 1))) : ONEC sz fb he de po sd en rk rn fk fn fbe fta fba flo fse ffo fpl fne fsk fsn fw fs = (0, (he, de, po, sd, en, rk, rn, fk, fn, fbe, fta, fba, flo, fse, ffo, fpl, fne, fsk, fsn, fw, fs)) := by
  unfold ONEC
  rw [if_neg hv]
def PTFW (fw : Nat → Int32) (po : Nat) : (Nat → Int32) × Nat := if po = 3 then (CPY (CPY (CPY fw 2 1) 3 2) 0 3, 2 + 1) else (CPY fw 0 (po + 1), po + 1)
theorem pt_0 {fw ffl ffn fkd fit fpa gk0 gi0 gr0 gk1 gi1 gr1 gk2 gi2 gr2 : Nat → Int32} {fx : Nat} (hw : WR fw fx ffl ffn fkd fit fpa) : PTR (PTFW fw 0).1 (PTFW fw 0).2 fx ffl ffn fkd fit fpa gk1 gi1 gr1 gk2 gi2 gr2 := by
  refine ⟨fun _ => hw.w0.cs, fun z => absurd (show 1 < 1 from z) (by decide), fun z => absurd (show 2 < 1 from z) (by decide)⟩
theorem pt_1 {fw ffl ffn fkd fit fpa gk0 gi0 gr0 gk1 gi1 gr1 gk2 gi2 gr2 : Nat → Int32} {fx : Nat} (hw : WR fw fx ffl ffn fkd fit fpa) (h : PTR fw 1 fx ffl ffn gk0 gi0 gr0 gk1 gi1 gr1 gk2 gi2 gr2) : PTR (PTFW fw 1).1 (PTFW fw 1).2 fx ffl ffn gk0 gi0 gr0 fkd fit fpa gk2 gi2 gr2 := by
  refine ⟨fun _ => (h.1 (by decide)).cn (by decide), fun _ => hw.w0.cs, fun z => absurd (show 2 < 2 from z) (by decide)⟩
theorem pt_2 {fw ffl ffn fkd fit fpa gk0 gi0 gr0 gk1 gi1 gr1 gk2 gi2 gr2 : Nat → Int32} {fx : Nat} (hw : WR fw fx ffl ffn fkd fit fpa) (h : PTR fw 2 fx ffl ffn gk0 gi0 gr0 gk1 gi1 gr1 gk2 gi2 gr2) : PTR (PTFW fw 2).1 (PTFW fw 2).2 fx ffl ffn gk0 gi0 gr0 gk1 gi1 gr1 fkd fit fpa := by
  refine ⟨fun _ => (h.1 (by decide)).cn (by decide), fun _ => (h.2.1 (by decide)).cn (by decide), fun _ => hw.w0.cs⟩
theorem pt_3 {fw ffl ffn fkd fit fpa gk0 gi0 gr0 gk1 gi1 gr1 gk2 gi2 gr2 : Nat → Int32} {fx : Nat} (hw : WR fw fx ffl ffn fkd fit fpa) (h : PTR fw 3 fx ffl ffn gk0 gi0 gr0 gk1 gi1 gr1 gk2 gi2 gr2) : PTR (PTFW fw 3).1 (PTFW fw 3).2 fx ffl ffn gk1 gi1 gr1 gk2 gi2 gr2 fkd fit fpa := by
  refine ⟨fun _ => (((h.2.1 (by decide)).cs (b := 1)).cn (a := 3) (b := 2) (by decide)).cn (by decide), fun _ => ((((h.2.2 (by decide)).cn (a := 2) (b := 1) (by decide))).cs (b := 2)).cn (by decide), fun _ => (((hw.w0.cn (a := 2) (b := 1) (by decide)).cn (a := 3) (b := 2) (by decide))).cs⟩
theorem ptfw_0 {fw ffl ffn fkd fit fpa : Nat → Int32} {fx po : Nat} (h : WR fw fx ffl ffn fkd fit fpa) : WR (PTFW fw po).1 fx ffl ffn fkd fit fpa := by
  unfold PTFW
  by_cases e : po = 3
  · rw [if_pos e]; exact ((h.c0 (by decide)).c0 (by decide)).c0 (by decide)
  · rw [if_neg e]; exact h.c0 (by omega)
theorem ptfw_s {fw fs ffl ffn gk3 gi3 gr3 gk4 gi4 gr4 : Nat → Int32} {fx po : Nat} (hp : po ≤ 3) (h : SVR fw fs fx ffl ffn gk3 gi3 gr3 gk4 gi4 gr4) : SVR (PTFW fw po).1 fs fx ffl ffn gk3 gi3 gr3 gk4 gi4 gr4 := by
  unfold PTFW
  by_cases e : po = 3
  · rw [if_pos e]; exact ⟨fun z => (((h.1 z).cn (by decide)).cn (by decide)).cn (by decide), fun z => (((h.2 z).cn (by decide)).cn (by decide)).cn (by decide)⟩
  · rw [if_neg e]; exact ⟨fun z => (h.1 z).cn (by omega), fun z => (h.2 z).cn (by omega)⟩
theorem back_p {fw ffl ffn gk0 gi0 gr0 gk1 gi1 gr1 gk2 gi2 gr2 : Nat → Int32} {fx po po2 a : Nat} (h : PTR fw po fx ffl ffn gk0 gi0 gr0 gk1 gi1 gr1 gk2 gi2 gr2) (hp : po2 ≤ po) : PTR (CPY fw a 0) po2 fx ffl ffn gk0 gi0 gr0 gk1 gi1 gr1 gk2 gi2 gr2 := ⟨fun z => (h.1 (by omega)).cn (by decide), fun z => (h.2.1 (by omega)).cn (by decide), fun z => (h.2.2 (by omega)).cn (by decide)⟩
theorem back_s {fw fs ffl ffn gk3 gi3 gr3 gk4 gi4 gr4 : Nat → Int32} {fx a : Nat} (h : SVR fw fs fx ffl ffn gk3 gi3 gr3 gk4 gi4 gr4) : SVR (CPY fw a 0) fs fx ffl ffn gk3 gi3 gr3 gk4 gi4 gr4 := ⟨fun z => (h.1 z).cn (by decide), fun z => (h.2 z).cn (by decide)⟩
theorem back_w {fw ffl ffn fkd fit fpa : Nat → Int32} {fx a : Nat} (h : WR (wv fw a) fx ffl ffn fkd fit fpa) : WR (CPY fw a 0) fx ffl ffn fkd fit fpa := h.cs.of0
theorem save_p {fw ffl ffn gk0 gi0 gr0 gk1 gi1 gr1 gk2 gi2 gr2 : Nat → Int32} {fx po k : Nat} (h : PTR fw po fx ffl ffn gk0 gi0 gr0 gk1 gi1 gr1 gk2 gi2 gr2) : PTR (CPY fw 0 (4 + k)) po fx ffl ffn gk0 gi0 gr0 gk1 gi1 gr1 gk2 gi2 gr2 := ⟨fun z => (h.1 z).cn (by omega), fun z => (h.2.1 z).cn (by omega), fun z => (h.2.2 z).cn (by omega)⟩
theorem save_w {fw ffl ffn fkd fit fpa : Nat → Int32} {fx k : Nat} (h : WR fw fx ffl ffn fkd fit fpa) : WR (CPY fw 0 (4 + k)) fx ffl ffn fkd fit fpa := h.c0 (by omega)
theorem save_0 {fw fs ffl ffn gk3 gi3 gr3 gk4 gi4 gr4 fkd fit fpa : Nat → Int32} {fx : Nat} (hw : WR fw fx ffl ffn fkd fit fpa) (h : SVR fw fs fx ffl ffn gk3 gi3 gr3 gk4 gi4 gr4) : SVR (CPY fw 0 (4 + 0)) (upd fs 0 1) fx ffl ffn fkd fit fpa gk4 gi4 gr4 := ⟨fun _ => hw.w0.cs, fun z => (h.2 (by rw [pk_un (by decide)] at z; exact z)).cn (by decide)⟩
theorem save_1 {fw fs ffl ffn gk3 gi3 gr3 gk4 gi4 gr4 fkd fit fpa : Nat → Int32} {fx : Nat} (hw : WR fw fx ffl ffn fkd fit fpa) (h : SVR fw fs fx ffl ffn gk3 gi3 gr3 gk4 gi4 gr4) : SVR (CPY fw 0 (4 + 1)) (upd fs 1 1) fx ffl ffn gk3 gi3 gr3 fkd fit fpa := ⟨fun z => (h.1 (by rw [pk_un (by decide)] at z; exact z)).cn (by decide), fun _ => hw.w0.cs⟩
def REL (de : Nat) (xm : Nat → Int32) (xl : Nat → Int32) (xh : Nat → Int32) (fta : Nat → Int32) (fba : Nat → Int32) (flo : Nat → Int32) (fne : Nat → Int32) (fk : Nat → Int32) (fn : Nat → Int32) (ce : Nat) (j1 : Nat → Int32) (j2 : Nat → Int32) (en : Int32) (rk : Int32) (rn : Int32) (fw : Nat → Int32) (fx : Nat) (ffl : Nat → Int32) (ffn : Nat → Int32) (fkd : Nat → Int32) (fit : Nat → Int32) (fpa : Nat → Int32) (po : Nat) (gk0 : Nat → Int32) (gi0 : Nat → Int32) (gr0 : Nat → Int32) (gk1 : Nat → Int32) (gi1 : Nat → Int32) (gr1 : Nat → Int32) (gk2 : Nat → Int32) (gi2 : Nat → Int32) (gr2 : Nat → Int32) (fs : Nat → Int32) (gk3 : Nat → Int32) (gi3 : Nat → Int32) (gr3 : Nat → Int32) (gk4 : Nat → Int32) (gi4 : Nat → Int32) (gr4 : Nat → Int32) : Prop := FRX de xm xl xh fta fba flo fne ∧ WR fw fx ffl ffn fkd fit fpa ∧ NRM fk fn ∧ RR ce j1 j2 en rk rn ∧ PTR fw po fx ffl ffn gk0 gi0 gr0 gk1 gi1 gr1 gk2 gi2 gr2 ∧ SVR fw fs fx ffl ffn gk3 gi3 gr3 gk4 gi4 gr4 ∧ fba 0 = 0
theorem RR.run {ce : Nat} {j1 j2 : Nat → Int32} {en rk rn : Int32} (h : RR ce j1 j2 en rk rn) (he : en = 0) : ce = 0 ∧ rk = 0 ∧ rn = 0 := by
  rcases h with h | h
  · exact h
  · exact absurd he h.2.1
theorem RR.fin {j1 j2 : Nat → Int32} {en k x v : Int32} (he : ¬ en = 0) (hx : x = tv k v) : RR (0 + 1) (upd j1 0 k) (upd j2 0 x) en k v := Or.inr ⟨rfl, he, pk_us, pk_us.trans hx⟩
theorem RR.over {ce : Nat} {j1 j2 : Nat → Int32} {en e2 rk rn : Int32} (h : RR ce j1 j2 en rk rn) (he : en = 0) : RR ce j1 j2 e2 rk rn := Or.inl (h.run he)
theorem nI_dec2 {n : Nat} (h : 2 ≤ n) : nI n - 1 - 1 = nI (n - 2) := by
  rw [nI_dec1 (by omega), nI_dec1 (by omega)]; rfl
theorem NRM.fk3 {fk fn : Nat → Int32} {i : Nat} (h : NRM fk fn) : ¬ fk i = -1 := (h i).1
theorem jmp_eq {he de po sd : Nat} {en rk rn v : Int32} {fk fn fbe fta fba flo fse ffo fpl fne fsk fsn fw fs : Nat → Int32} : GOF (de - 1) (1, (he, de, po, sd, en, rk, rn, fk, fn, fbe, fta, fba, flo, fse, ffo, fpl, upd fne (de - 1) v, fsk, fsn, fw, fs)) = (1, (he, de, po, sd, en, rk, rn, fk, fn, fbe, fta, fba, flo, fse, ffo, upd fpl (de - 1) v, upd fne (de - 1) v, fsk, fsn, fw, fs)) := by
  rw [GOF_1]
  unfold SPL
  dsimp only
  rw [pk_us]
