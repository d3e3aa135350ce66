theorem tv_ne {k v : Int32} (h : ¬ k = 1) : tv k v = v := if_neg h
theorem gli_no {fb fbe : Nat → Int32} {d b sz : Nat} {x : Option Nat} (hB : BY fb) (hs : sz ≤ 300) (e : fbe d = nI b) (hb : b ≤ sz) (hx : ∀ h, x = some h → h + 4 ≤ sz) (h : GLI fb fbe d x = -1) : x = none := by
  cases x with
  | none => rfl
  | some y =>
    have h1 := hx y rfl
    have h2 := bs_le hB (j := y + 3) (by omega)
    have h3 : fbe d + nI (bs fb (y + 3)) = -1 := h
    rw [e, nI_add] at h3
    exact absurd h3 (ne_m1 (by omega))
theorem gli_yes {fb fbe : Nat → Int32} {d : Nat} {x : Option Nat} (h : ¬ GLI fb fbe d x = -1) : ∃ y, x = some y := by
  cases x with
  | none => exact absurd rfl h
  | some y => exact ⟨y, rfl⟩
theorem askg_none {sz : Nat} {fb : Nat → Int32} {he de po sd : Nat} {en rk rn : Int32} {fk fn fbe fta fba flo fse ffo fpl fne fsk fsn fw fs : Nat → Int32} {ob : Int32} {pp n0 gg : Nat} : ASKG ob (-1) pp n0 gg sz fb he de po sd en rk rn fk fn fbe fta fba flo fse ffo fpl fne fsk fsn fw fs = (if n0 = 0 ∧ he - gg < 40 then (1, (he - gg + 1, de, po, sd, en, rk, rn, upd fk (he - gg) (0), upd fn (he - gg) (nrm (0) (0)), fbe, fta, fba, flo, fse, ffo, upd fpl (de - 1) (fne (de - 1)), fne, fsk, fsn, fw, fs)) else (0, (he, de, po, sd, en, rk, rn, fk, fn, fbe, fta, fba, flo, fse, ffo, fpl, fne, fsk, fsn, fw, fs))) := by
  unfold ASKG ASKF
  by_cases h4 : n0 < 4
  · rw [if_pos h4, if_pos rfl]
  · rw [if_neg h4, if_neg (by omega)]
theorem askg_call {sz : Nat} {fb : Nat → Int32} {he de po sd : Nat} {en rk rn : Int32} {fk fn fbe fta fba flo fse ffo fpl fne fsk fsn fw fs : Nat → Int32} {ob : Int32} {pp n0 gg q : Nat} (hq : q < 32) (h : fw (29 * q + 5 + 3 * pp + 1) = 4) : ASKG ob (nI q) pp n0 gg sz fb he de po sd en rk rn fk fn fbe fta fba flo fse ffo fpl fne fsk fsn fw fs = CALLG (fw (29 * q + 5 + 3 * pp + 2)) n0 gg ob (nI q) sz fb he de po sd en rk rn fk fn fbe fta fba flo fse ffo fpl fne fsk fsn fw fs := by
  unfold ASKG CALLG ASKF
  have hc : (nI q).toNatClampNeg = q := nI_clamp (by omega)
  by_cases h4 : n0 < 4
  · rw [if_pos h4, if_pos h4, if_neg (ne_m1 (by omega)), hc, if_pos h]
  · rw [if_neg h4, if_neg h4]
theorem askg_val {sz : Nat} {fb : Nat → Int32} {he de po sd : Nat} {en rk rn : Int32} {fk fn fbe fta fba flo fse ffo fpl fne fsk fsn fw fs : Nat → Int32} {ob : Int32} {pp n0 gg q : Nat} (hq : q < 32) (h : ¬ fw (29 * q + 5 + 3 * pp + 1) = 4) : ASKG ob (nI q) pp n0 gg sz fb he de po sd en rk rn fk fn fbe fta fba flo fse ffo fpl fne fsk fsn fw fs = (if n0 = 0 ∧ he - gg < 40 then (1, (he - gg + 1, de, po, sd, en, rk, rn, upd fk (he - gg) (fw (29 * q + 5 + 3 * pp + 1)), upd fn (he - gg) (nrm (fw (29 * q + 5 + 3 * pp + 1)) (fw (29 * q + 5 + 3 * pp + 2))), fbe, fta, fba, flo, fse, ffo, upd fpl (de - 1) (fne (de - 1)), fne, fsk, fsn, fw, fs)) else (0, (he, de, po, sd, en, rk, rn, fk, fn, fbe, fta, fba, flo, fse, ffo, fpl, fne, fsk, fsn, fw, fs))) := by
  unfold ASKG ASKF
  have hc : (nI q).toNatClampNeg = q := nI_clamp (by omega)
  by_cases h4 : n0 < 4
  · rw [if_pos h4, if_neg (ne_m1 (by omega)), hc, if_neg h]
  · rw [if_neg h4, if_neg (by omega)]
def ASKQ (n0 pp sz : Nat) (fb : Nat → Int32) (he de po sd : Nat) (en rk rn : Int32) (fk fn fbe fta fba flo fse ffo fpl fne fsk fsn fw fs : Nat → Int32) : Int32 × RS := if pp < 8 ∧ OTP fba flo fk fn fw he (de - 1) ∧ bs fba (de - 1) + bs flo (de - 1) + (n0 + 1) ≤ he then ASKG (fn (he - 1)) (ownv fw (LNE fw (fn (he - 1)).toNatClampNeg).reverse pp (-1)) pp n0 1 sz fb he de po sd en rk rn fk fn fbe fta fba flo fse ffo fpl fne fsk fsn fw fs else (0, (he, de, po, sd, en, rk, rn, fk, fn, fbe, fta, fba, flo, fse, ffo, fpl, fne, fsk, fsn, fw, fs))
def INHQ (n0 pp sz : Nat) (fb : Nat → Int32) (he de po sd : Nat) (en rk rn : Int32) (fk fn fbe fta fba flo fse ffo fpl fne fsk fsn fw fs : Nat → Int32) : Int32 × RS := if pp < 8 ∧ bs fba (de - 1) + bs flo (de - 1) + n0 ≤ he ∧ TH fw (fse (de - 1)) ∧ TH fw (ffo (de - 1)) then ASKG (fse (de - 1)) (ownv fw (LNE fw (fse (de - 1)).toNatClampNeg).reverse pp (ffo (de - 1))) pp n0 0 sz fb he de po sd en rk rn fk fn fbe fta fba flo fse ffo fpl fne fsk fsn fw fs else (0, (he, de, po, sd, en, rk, rn, fk, fn, fbe, fta, fba, flo, fse, ffo, fpl, fne, fsk, fsn, fw, fs))
theorem q21_eq {sz : Nat} {fb : Nat → Int32} {he de po sd : Nat} {en rk rn : Int32} {fk fn fbe fta fba flo fse ffo fpl fne fsk fsn fw fs : Nat → Int32} {jp : Int32} : Q_21 sz fb jp he de po sd en rk rn fk fn fbe fta fba flo fse ffo fpl fne fsk fsn fw fs = ASKQ (ab fb sz jp) (ab fb sz (jp + 1)) sz fb he de po sd en rk rn fk fn fbe fta fba flo fse ffo fpl fne fsk fsn fw fs := by
  unfold Q_21 ASKQ ASKG OTP
  by_cases h4 : ab fb sz jp < 4
  · rw [if_pos h4]
    by_cases h8 : ab fb sz (jp + 1) < 8
    · rw [if_pos h8]
      by_cases hb : bs fba (de - 1) + bs flo (de - 1) + ab fb sz jp < he
      · rw [if_pos hb]
        by_cases ho : OBK fk fn fw (he - 1)
        · rw [if_pos ho, if_pos ⟨h8, ⟨by omega, ho⟩, by omega⟩, if_pos h4]
        · rw [if_neg ho, if_neg (fun z => ho z.2.1.2)]
      · rw [if_neg hb, if_neg (fun z => hb (by have := z.2.2; omega))]
    · rw [if_neg h8, if_neg (fun z => h8 z.1)]
  · rw [if_neg h4]
    split <;> rfl
theorem q23_eq {sz : Nat} {fb : Nat → Int32} {he de po sd : Nat} {en rk rn : Int32} {fk fn fbe fta fba flo fse ffo fpl fne fsk fsn fw fs : Nat → Int32} {jp : Int32} : Q_23 sz fb jp he de po sd en rk rn fk fn fbe fta fba flo fse ffo fpl fne fsk fsn fw fs = INHQ (ab fb sz jp) (ab fb sz (jp + 1)) sz fb he de po sd en rk rn fk fn fbe fta fba flo fse ffo fpl fne fsk fsn fw fs := by
  unfold Q_23 INHQ ASKG
  by_cases h4 : ab fb sz jp < 4
  · rw [if_pos h4]
    by_cases h8 : ab fb sz (jp + 1) < 8
    · rw [if_pos h8]
      by_cases hb : bs fba (de - 1) + bs flo (de - 1) + ab fb sz jp ≤ he
      · rw [if_pos hb]
        by_cases hs : TH fw (fse (de - 1))
        · rw [if_pos hs]
          by_cases ho : TH fw (ffo (de - 1))
          · rw [if_pos ho, if_pos ⟨h8, hb, hs, ho⟩, if_pos h4]
          · rw [if_neg ho, if_neg (fun z => ho z.2.2.2)]
        · rw [if_neg hs, if_neg (fun z => hs z.2.2.1)]
      · rw [if_neg hb, if_neg (fun z => hb z.2.1)]
    · rw [if_neg h8, if_neg (fun z => h8 z.1)]
  · rw [if_neg h4]
    split <;> rfl
theorem q24_eq {sz : Nat} {fb : Nat → Int32} {he de po sd : Nat} {en rk rn : Int32} {fk fn fbe fta fba flo fse ffo fpl fne fsk fsn fw fs : Nat → Int32} {jp : Int32} : Q_24 sz fb jp he de po sd en rk rn fk fn fbe fta fba flo fse ffo fpl fne fsk fsn fw fs = (if bs fba (de - 1) + bs flo (de - 1) + ab fb sz jp ≤ he then CALLG (nI (256 * ab fb sz (jp + 1) + ab fb sz (jp + 1 + 1))) (ab fb sz jp) 0 (-1) (-1) sz fb he de po sd en rk rn fk fn fbe fta fba flo fse ffo fpl fne fsk fsn fw fs else (0, (he, de, po, sd, en, rk, rn, fk, fn, fbe, fta, fba, flo, fse, ffo, fpl, fne, fsk, fsn, fw, fs))) := by
  unfold Q_24 CALLG
  by_cases h4 : ab fb sz jp < 4
  · rw [if_pos h4, if_pos h4]
  · rw [if_neg h4, if_neg h4]
    split <;> rfl
theorem PTR.po {fw ffl ffn gk0 gi0 gr0 gk1 gi1 gr1 gk2 gi2 gr2 : Nat → Int32} {fx po po2 : Nat} (h : PTR fw po fx ffl ffn gk0 gi0 gr0 gk1 gi1 gr1 gk2 gi2 gr2) (hp : po2 ≤ po) : PTR fw po2 fx ffl ffn gk0 gi0 gr0 gk1 gi1 gr1 gk2 gi2 gr2 := ⟨fun z => h.1 (by omega), fun z => h.2.1 (by omega), fun z => h.2.2 (by omega)⟩
theorem tss_po {sz : Nat} {fb : Nat → Int32} {he de po sd : Nat} {en rk rn : Int32} {fk fn fbe fta fba flo fse ffo fpl fne fsk fsn fw fs : Nat → Int32} {oo : Nat} {r : Int32} {s : RS} (h : TOSSF oo sz fb he de po sd en rk rn fk fn fbe fta fba flo fse ffo fpl fne fsk fsn fw fs = (r, s)) : s.2.2.1 ≤ po := by
  unfold TOSSF at h
  split at h
  · cases h; exact Nat.zero_le _
  · cases h; exact Nat.le_refl _
theorem tsz_po {sz : Nat} {fb : Nat → Int32} {he de po sd : Nat} {en rk rn : Int32} {fk fn fbe fta fba flo fse ffo fpl fne fsk fsn fw fs : Nat → Int32} {r : Int32} {s : RS} (h : (if TH fw 0 then TOSSF 0 sz fb he de po sd en rk rn fk fn fbe fta fba flo fse ffo fpl fne fsk fsn fw fs else (0, (he, de, po, sd, en, rk, rn, fk, fn, fbe, fta, fba, flo, fse, ffo, fpl, fne, fsk, fsn, fw, fs))) = (r, s)) : s.2.2.1 ≤ po := by
  split at h
  · exact tss_po h
  · cases h; exact Nat.le_refl _
theorem end_po {he de po sd : Nat} {en rk rn : Int32} {fk fn fbe fta fba flo fse ffo fpl fne fsk fsn fw fs : Nat → Int32} {wh vl r : Int32} {s : RS} (h : ENDF wh vl he de po sd en rk rn fk fn fbe fta fba flo fse ffo fpl fne fsk fsn fw fs = (r, s)) : s.2.2.1 ≤ po := by
  unfold ENDF at h
  split at h
  · cases h; exact Nat.zero_le _
  · split at h
    · cases h; exact Nat.le_refl _
    · cases h; exact Nat.le_refl _
theorem call_b0 {sz : Nat} {fb : Nat → Int32} {he de po sd : Nat} {en rk rn : Int32} {fk fn fbe fta fba flo fse ffo fpl fne fsk fsn fw fs : Nat → Int32} {ad ob ow r : Int32} {n0 gg : Nat} {s : RS} (hd : 1 ≤ de) (hb : fba 0 = 0) (h : CALLG ad n0 gg ob ow sz fb he de po sd en rk rn fk fn fbe fta fba flo fse ffo fpl fne fsk fsn fw fs = (r, s)) : s.2.2.2.2.2.2.2.2.2.2.2.1 0 = 0 := by
  unfold CALLG CALLF at h
  split at h
  · split at h
    · split at h
      · split at h
        · cases h; show upd fba de _ 0 = 0; rw [pk_un (by omega)]; exact hb
        · cases h; exact hb
      · cases h; exact hb
    · cases h; exact hb
  · cases h; exact hb
theorem askg_b0 {sz : Nat} {fb : Nat → Int32} {he de po sd : Nat} {en rk rn : Int32} {fk fn fbe fta fba flo fse ffo fpl fne fsk fsn fw fs : Nat → Int32} {ob ow r : Int32} {pp n0 gg : Nat} {s : RS} (hd : 1 ≤ de) (hb : fba 0 = 0) (h : ASKG ob ow pp n0 gg sz fb he de po sd en rk rn fk fn fbe fta fba flo fse ffo fpl fne fsk fsn fw fs = (r, s)) : s.2.2.2.2.2.2.2.2.2.2.2.1 0 = 0 := by
  unfold ASKG at h
  split at h
  · rename_i h4
    unfold ASKF at h
    split at h
    · split at h <;> (cases h; exact hb)
    · split at h
      · exact call_b0 (ad := fw (29 * ow.toNatClampNeg + 5 + 3 * pp + 2)) (n0 := n0) (gg := gg) (ob := ob) (ow := ow) hd hb (by unfold CALLG; rw [if_pos h4]; exact h)
      · split at h <;> (cases h; exact hb)
  · cases h; exact hb
theorem q21_b0 {sz : Nat} {fb : Nat → Int32} {he de po sd : Nat} {en rk rn : Int32} {fk fn fbe fta fba flo fse ffo fpl fne fsk fsn fw fs : Nat → Int32} {r : Int32} {n0 pp : Nat} {s : RS} (hd : 1 ≤ de) (hb : fba 0 = 0) (h : ASKQ n0 pp sz fb he de po sd en rk rn fk fn fbe fta fba flo fse ffo fpl fne fsk fsn fw fs = (r, s)) : s.2.2.2.2.2.2.2.2.2.2.2.1 0 = 0 := by
  unfold ASKQ at h
  split at h
  · exact askg_b0 hd hb h
  · cases h; exact hb
theorem q23_b0 {sz : Nat} {fb : Nat → Int32} {he de po sd : Nat} {en rk rn : Int32} {fk fn fbe fta fba flo fse ffo fpl fne fsk fsn fw fs : Nat → Int32} {r : Int32} {n0 pp : Nat} {s : RS} (hd : 1 ≤ de) (hb : fba 0 = 0) (h : INHQ n0 pp sz fb he de po sd en rk rn fk fn fbe fta fba flo fse ffo fpl fne fsk fsn fw fs = (r, s)) : s.2.2.2.2.2.2.2.2.2.2.2.1 0 = 0 := by
  unfold INHQ at h
  split at h
  · exact askg_b0 hd hb h
  · cases h; exact hb
