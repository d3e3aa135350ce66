theorem bcd_0 {fw fb : Nat → Int32} {sz : Nat} {en aa pv : Int32} (h : BCD fw fb sz en aa pv = 0) : TH fw aa ∧ ¬ (pv < 0 ∨ 7 < pv) ∧ FITB fw fb sz aa.toNatClampNeg pv.toNatClampNeg ∧ ¬ en = 0 := by
  unfold BCD at h
  split at h
  · split at h
    · exact absurd h (by decide)
    · split at h
      · split at h
        · exact absurd h (by decide)
        · exact ⟨by assumption, by assumption, by assumption, by assumption⟩
      · exact absurd h (by decide)
  · exact absurd h (by decide)
theorem ri_beg {sz fx : Nat} {fb : Nat → Int32} {he de po sd : Nat} {en rk rn : Int32} {fk fn fbe fta fba flo fse ffo fpl fne fsk fsn fw fs : Nat → Int32} {aa pv : Int32} (hI : RI sz fx po he de sd en fb fw fs fba flo fta fbe) (h : BCD fw fb sz en aa pv = 0) : RIS sz fx fb (BEGF aa pv sz fb he de po sd en rk rn fk fn fbe fta fba flo fse ffo fpl fne fsk fsn fw fs).2 := by
  obtain ⟨-, -, hf, -⟩ := bcd_0 h
  have hs : SD fb sz (BADR fw aa pv) 0 := hf.2.2
  obtain ⟨j9, ea9, ej9, hlo9, hq9, hsq9, hj9⟩ := SD.ix hI.by_ hI.hsz (by decide) hs
  unfold BEGF CALLF
  rw [if_pos h, if_pos hs, ej9, if_pos (by decide), if_pos (by omega)]
  dsimp only [RIS]
  exact RI.mk hI.hsz hI.by_ hI.hfx (by omega) (by omega) (by omega) (by omega) (fun _ => by omega) (fun z => absurd rfl z) (hI.wa.po (by omega)) (FR.push (he := 0 - 0) (n := 0) FR.zero (Nat.le_refl _) hsq9)
theorem beg_b0 {sz fx : Nat} {fb : Nat → Int32} {he de po sd : Nat} {en rk rn : Int32} {fk fn fbe fta fba flo fse ffo fpl fne fsk fsn fw fs : Nat → Int32} {aa pv : Int32} (hI : RI sz fx po he de sd en fb fw fs fba flo fta fbe) (h : BCD fw fb sz en aa pv = 0) {s : RS} (hs : (BEGF aa pv sz fb he de po sd en rk rn fk fn fbe fta fba flo fse ffo fpl fne fsk fsn fw fs).2 = s) : s.2.2.2.2.2.2.2.2.2.2.2.1 0 = 0 := by
  obtain ⟨-, -, hf, -⟩ := bcd_0 h
  have hsd : SD fb sz (BADR fw aa pv) 0 := hf.2.2
  obtain ⟨j9, ea9, ej9, hlo9, hq9, hsq9, hj9⟩ := SD.ix hI.by_ hI.hsz (by decide) hsd
  unfold BEGF CALLF at hs
  rw [if_pos h, if_pos hsd, ej9, if_pos (by decide), if_pos (by omega)] at hs
  subst hs
  show upd fba 0 (nI (0 - 0 - 0)) 0 = 0
  rw [pk_us]
  rfl
