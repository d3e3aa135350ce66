/-! the invariant over the step -/
def RIS (sz fx : Nat) (fb : Nat → Int32) (s : RS) : Prop := RI sz fx s.2.2.1 s.1 s.2.1 s.2.2.2.1 s.2.2.2.2.1 fb s.2.2.2.2.2.2.2.2.2.2.2.2.2.2.2.2.2.2.2.1 s.2.2.2.2.2.2.2.2.2.2.2.2.2.2.2.2.2.2.2.2 s.2.2.2.2.2.2.2.2.2.2.2.1 s.2.2.2.2.2.2.2.2.2.2.2.2.1 s.2.2.2.2.2.2.2.2.2.2.1 s.2.2.2.2.2.2.2.2.2.1
theorem tos_lt {fb fw fta fbe fpl : Nat → Int32} {oo : Nat} : ∀ (m d x : Nat), tos fb fw oo fta fbe fpl m = some (d, x) → d < m := by
  intro m
  induction m with
  | zero => intro d x h; exact absurd h (by simp [tos])
  | succ m ih =>
    intro d x h
    cases e : hndF fb fw oo fta fbe fpl m with
    | none =>
      have z := tos_no (fb := fb) (fw := fw) (o := oo) (fta := fta) (fbe := fbe) (fpl := fpl) (m := m + 1) (by omega) e
      have := ih d x (z.trans h)
      omega
    | some y =>
      have z := tos_yes (fb := fb) (fw := fw) (o := oo) (fta := fta) (fbe := fbe) (fpl := fpl) (m := m + 1) (by omega) e
      rw [z] at h
      have := Option.some.inj h
      have := congrArg Prod.fst this
      simp at this
      omega
theorem lowf_ge {fw : Nat → Int32} : ∀ (n o : Nat), o ≤ lowf fw n o ∧ lowf fw n o ≤ o + n ∧ (lowf fw n o < o + n → ¬ fw (29 * lowf fw n o) = 1) := by
  intro n
  induction n with
  | zero => intro o; exact ⟨Nat.le_refl _, Nat.le_refl _, fun h => absurd h (Nat.lt_irrefl _)⟩
  | succ n ih =>
    intro o
    by_cases h : fw (29 * o) = 1
    · rw [show lowf fw (n + 1) o = lowf fw n (o + 1) from if_pos h]
      obtain ⟨h1, h2, h3⟩ := ih (o + 1)
      exact ⟨by omega, by omega, fun z => h3 (by omega)⟩
    · rw [show lowf fw (n + 1) o = o from if_neg h]
      exact ⟨by omega, by omega, fun _ => h⟩
theorem EMP_far {f : Nat → Int32} {x : Nat} : ∀ j, (∀ i, i < 29 → j ≠ 29 * x + i) → EMP f x j = f j := fun j hj => by
  have : ∀ n, n ≤ 8 → EMQ f x n j = f j := by
    intro n
    induction n with
    | zero => intro _; show upd (upd f (29 * x) 1) (29 * x + 1) 0 j = f j; rw [pk_un (hj 1 (by decide)), pk_un (by have := hj 0 (by decide); omega)]
    | succ n ih => intro hn; show upd (EMQ f x n) (29 * x + 5 + 3 * n) 0 j = f j; rw [pk_un (by have := hj (5 + 3 * n) (by omega); omega)]; exact ih (by omega)
  exact this 8 (by decide)
set_option maxHeartbeats 2000000 in
theorem ri_toss {sz fx : Nat} {fb : Nat → Int32} {jp : Int32} {he de po sd : Nat} {en rk rn : Int32} {fk fn fbe fta fba flo fse ffo fpl fne fsk fsn fw fs : Nat → Int32} {oo : Nat} (hI : RI sz fx po he de sd en fb fw fs fba flo fta fbe) (hen : en = 0) (hbt : bs fba (de - 1) + bs flo (de - 1) < he) : RIS sz fx fb (TOSSF oo sz fb he de po sd en rk rn fk fn fbe fta fba flo fse ffo fpl fne fsk fsn fw fs).2 := by
  have hsz := hI.hsz
  have hB := hI.by_
  have hhe := hI.hhe
  have hde := hI.hde
  have hpo := hI.hpo
  have hsd := hI.hsd
  have hdp := hI.run hen
  obtain ⟨hbb, hlo, hbl, hT_⟩ := hI.fr.topE hdp hhe
  unfold TOSSF
  cases e : tos fb fw oo fta fbe fpl de with
  | none => exact (by dsimp only [RIS]; exact (RI.mk hI.hsz hI.by_ hI.hfx (by omega) (by omega) (by omega) hI.hsd (fun z => absurd z (by decide)) (fun _ => rfl) (hI.wa.po (by omega)) FR.zero))
  | some y =>
    obtain ⟨d, x⟩ := y
    have hd := tos_lt _ _ _ e
    obtain ⟨eb9, el9, et9, ⟨q9, ee9, hq9, hqs9⟩, hbl9, hbu9, hc1, hc0⟩ := hI.fr.cutE (d := d) hd hhe hsz
    have hb40 : bs fba d + bs flo d < 40 := by
      by_cases z : d + 1 < de
      · have := hbu9 z; omega
      · obtain rfl : d = de - 1 := by omega
        omega
    exact (by dsimp only [RIS]; exact (RI.mk hI.hsz hI.by_ hI.hfx hI.hpo (by omega) (by omega) hI.hsd (fun _ => by omega) hI.idle hI.wa (hc1 _ (by omega))))
set_option maxHeartbeats 2000000 in
theorem ri_end {sz fx : Nat} {fb : Nat → Int32} {jp : Int32} {he de po sd : Nat} {en rk rn : Int32} {fk fn fbe fta fba flo fse ffo fpl fne fsk fsn fw fs : Nat → Int32} {wh vl : Int32} (hI : RI sz fx po he de sd en fb fw fs fba flo fta fbe) (hen : en = 0) : RIS sz fx fb (ENDF wh vl he de po sd en rk rn fk fn fbe fta fba flo fse ffo fpl fne fsk fsn fw fs).2 := by
  have hsz := hI.hsz
  have hB := hI.by_
  have hhe := hI.hhe
  have hde := hI.hde
  have hpo := hI.hpo
  have hsd := hI.hsd
  have hdp := hI.run hen
  obtain ⟨hbb, hlo, hbl, hT_⟩ := hI.fr.topE hdp hhe
  obtain ⟨eb9, el9, et9, ⟨q9, ee9, hq9, hqs9⟩, hbl9, hbu9, hc1, hc0⟩ := hI.fr.cutE (d := de - 1) (by omega) hhe hsz
  unfold ENDF
  (repeat' split) <;> first | exact hI | exact (by dsimp only [RIS]; exact (RI.mk hI.hsz hI.by_ hI.hfx (by omega) (by omega) (by omega) hI.hsd (fun z => absurd z (by decide)) (fun _ => rfl) (hI.wa.po (by omega)) (hc0 _ (by omega)))) | exact (by dsimp only [RIS]; exact (RI.mk hI.hsz hI.by_ hI.hfx hI.hpo (by omega) (by omega) hI.hsd (fun _ => by omega) hI.idle hI.wa (hc0 _ (by omega))))
set_option maxHeartbeats 2000000 in
theorem ri_call {sz fx : Nat} {fb : Nat → Int32} {jp : Int32} {he de po sd : Nat} {en rk rn : Int32} {fk fn fbe fta fba flo fse ffo fpl fne fsk fsn fw fs : Nat → Int32} {ad ob ow : Int32} {n0 gg : Nat} (hI : RI sz fx po he de sd en fb fw fs fba flo fta fbe) (hen : en = 0) (hn3 : n0 ≤ 3) (hg1 : gg ≤ 1) (hng : bs fba (de - 1) + bs flo (de - 1) + gg + n0 ≤ he) : RIS sz fx fb (CALLF ad n0 gg ob ow sz fb he de po sd en rk rn fk fn fbe fta fba flo fse ffo fpl fne fsk fsn fw fs).2 := by
  have hsz := hI.hsz
  have hB := hI.by_
  have hhe := hI.hhe
  have hde := hI.hde
  have hpo := hI.hpo
  have hsd := hI.hsd
  have hdp := hI.run hen
  obtain ⟨hbb, hlo, hbl, hT_⟩ := hI.fr.topE hdp hhe
  unfold CALLF
  split
  · rename_i hs
    obtain ⟨j9, ea9, ej9, hlo9, hq9, hsq9, hj9⟩ := SD.ix hB hsz hn3 hs
    rw [ej9]
    (repeat' split) <;> first | exact hI | exact (by dsimp only [RIS]; exact (RI.mk hI.hsz hI.by_ hI.hfx hI.hpo (by assumption) (by omega) hI.hsd (fun _ => by omega) hI.idle hI.wa (FR.push (hT_ _ (by omega)) (by omega) hsq9)))
  · exact hI
set_option maxHeartbeats 2000000 in
theorem ri_ask {sz fx : Nat} {fb : Nat → Int32} {jp : Int32} {he de po sd : Nat} {en rk rn : Int32} {fk fn fbe fta fba flo fse ffo fpl fne fsk fsn fw fs : Nat → Int32} {ob ow : Int32} {pp n0 gg : Nat} (hI : RI sz fx po he de sd en fb fw fs fba flo fta fbe) (hen : en = 0) (hn3 : n0 ≤ 3) (hg1 : gg ≤ 1) (hng : bs fba (de - 1) + bs flo (de - 1) + gg + n0 ≤ he) : RIS sz fx fb (ASKF ob ow pp n0 gg sz fb he de po sd en rk rn fk fn fbe fta fba flo fse ffo fpl fne fsk fsn fw fs).2 := by
  have hsz := hI.hsz
  have hB := hI.by_
  have hhe := hI.hhe
  have hde := hI.hde
  have hpo := hI.hpo
  have hsd := hI.hsd
  have hdp := hI.run hen
  obtain ⟨hbb, hlo, hbl, hT_⟩ := hI.fr.topE hdp hhe
  unfold ASKF
  (repeat' split) <;> first | exact ri_call (jp := jp) hI hen hn3 hg1 hng | exact (by dsimp only [RIS]; exact (RI.mk hI.hsz hI.by_ hI.hfx hI.hpo (by omega) hI.hde hI.hsd hI.run hI.idle hI.wa (hT_ _ (by omega)))) | exact hI
set_option maxHeartbeats 400000 in
theorem ri_0 {sz fx : Nat} {fb : Nat → Int32} {jp : Int32} {he de po sd : Nat} {en rk rn : Int32} {fk fn fbe fta fba flo fse ffo fpl fne fsk fsn fw fs : Nat → Int32}  (hI : RI sz fx po he de sd en fb fw fs fba flo fta fbe) (hen : en = 0)  : RIS sz fx fb (Q_0 sz fb jp he de po sd en rk rn fk fn fbe fta fba flo fse ffo fpl fne fsk fsn fw fs).2 := by
  have hsz := hI.hsz
  have hB := hI.by_
  have hhe := hI.hhe
  have hde := hI.hde
  have hpo := hI.hpo
  have hsd := hI.hsd
  have hdp := hI.run hen
  obtain ⟨hbb, hlo, hbl, hT_⟩ := hI.fr.topE hdp hhe
  unfold Q_0
  (repeat' split) <;> first | exact (by dsimp only [RIS]; exact (RI.mk hI.hsz hI.by_ hI.hfx hI.hpo (by omega) hI.hde (by omega) hI.run hI.idle hI.wa (hT_ _ (by omega)))) | exact hI
set_option maxHeartbeats 400000 in
theorem ri_1 {sz fx : Nat} {fb : Nat → Int32} {jp : Int32} {he de po sd : Nat} {en rk rn : Int32} {fk fn fbe fta fba flo fse ffo fpl fne fsk fsn fw fs : Nat → Int32}  (hI : RI sz fx po he de sd en fb fw fs fba flo fta fbe) (hen : en = 0)  : RIS sz fx fb (Q_1 sz fb jp he de po sd en rk rn fk fn fbe fta fba flo fse ffo fpl fne fsk fsn fw fs).2 := by
  have hsz := hI.hsz
  have hB := hI.by_
  have hhe := hI.hhe
  have hde := hI.hde
  have hpo := hI.hpo
  have hsd := hI.hsd
  have hdp := hI.run hen
  obtain ⟨hbb, hlo, hbl, hT_⟩ := hI.fr.topE hdp hhe
  unfold Q_1
  (repeat' split) <;> first | exact (by dsimp only [RIS]; exact (RI.mk hI.hsz hI.by_ hI.hfx hI.hpo (by omega) hI.hde (by omega) hI.run hI.idle hI.wa (hT_ _ (by omega)))) | exact hI
set_option maxHeartbeats 400000 in
theorem ri_2 {sz fx : Nat} {fb : Nat → Int32} {jp : Int32} {he de po sd : Nat} {en rk rn : Int32} {fk fn fbe fta fba flo fse ffo fpl fne fsk fsn fw fs : Nat → Int32}  (hI : RI sz fx po he de sd en fb fw fs fba flo fta fbe) (hen : en = 0)  : RIS sz fx fb (Q_2 sz fb jp he de po sd en rk rn fk fn fbe fta fba flo fse ffo fpl fne fsk fsn fw fs).2 := by
  have hsz := hI.hsz
  have hB := hI.by_
  have hhe := hI.hhe
  have hde := hI.hde
  have hpo := hI.hpo
  have hsd := hI.hsd
  have hdp := hI.run hen
  obtain ⟨hbb, hlo, hbl, hT_⟩ := hI.fr.topE hdp hhe
  unfold Q_2
  (repeat' split) <;> first | exact (by dsimp only [RIS]; exact (RI.mk hI.hsz hI.by_ hI.hfx hI.hpo (by omega) hI.hde (by omega) hI.run hI.idle hI.wa (hT_ _ (by omega)))) | exact hI
set_option maxHeartbeats 400000 in
theorem ri_3 {sz fx : Nat} {fb : Nat → Int32} {jp : Int32} {he de po sd : Nat} {en rk rn : Int32} {fk fn fbe fta fba flo fse ffo fpl fne fsk fsn fw fs : Nat → Int32}  (hI : RI sz fx po he de sd en fb fw fs fba flo fta fbe) (hen : en = 0)  : RIS sz fx fb (Q_3 sz fb jp he de po sd en rk rn fk fn fbe fta fba flo fse ffo fpl fne fsk fsn fw fs).2 := by
  have hsz := hI.hsz
  have hB := hI.by_
  have hhe := hI.hhe
  have hde := hI.hde
  have hpo := hI.hpo
  have hsd := hI.hsd
  have hdp := hI.run hen
  obtain ⟨hbb, hlo, hbl, hT_⟩ := hI.fr.topE hdp hhe
  unfold Q_3
  (repeat' split) <;> first | exact (by dsimp only [RIS]; exact (RI.mk hI.hsz hI.by_ hI.hfx hI.hpo (by omega) hI.hde (by omega) hI.run hI.idle hI.wa (hT_ _ (by omega)))) | exact hI
set_option maxHeartbeats 400000 in
theorem ri_4 {sz fx : Nat} {fb : Nat → Int32} {jp : Int32} {he de po sd : Nat} {en rk rn : Int32} {fk fn fbe fta fba flo fse ffo fpl fne fsk fsn fw fs : Nat → Int32}  (hI : RI sz fx po he de sd en fb fw fs fba flo fta fbe) (hen : en = 0)  : RIS sz fx fb (Q_4 sz fb jp he de po sd en rk rn fk fn fbe fta fba flo fse ffo fpl fne fsk fsn fw fs).2 := by
  have hsz := hI.hsz
  have hB := hI.by_
  have hhe := hI.hhe
  have hde := hI.hde
  have hpo := hI.hpo
  have hsd := hI.hsd
  have hdp := hI.run hen
  obtain ⟨hbb, hlo, hbl, hT_⟩ := hI.fr.topE hdp hhe
  unfold Q_4
  (repeat' split) <;> first | exact (by dsimp only [RIS]; exact (RI.mk hI.hsz hI.by_ hI.hfx hI.hpo (by omega) hI.hde (by omega) hI.run hI.idle hI.wa (hT_ _ (by omega)))) | exact hI
set_option maxHeartbeats 400000 in
theorem ri_5 {sz fx : Nat} {fb : Nat → Int32} {jp : Int32} {he de po sd : Nat} {en rk rn : Int32} {fk fn fbe fta fba flo fse ffo fpl fne fsk fsn fw fs : Nat → Int32}  (hI : RI sz fx po he de sd en fb fw fs fba flo fta fbe) (hen : en = 0)  : RIS sz fx fb (Q_5 sz fb jp he de po sd en rk rn fk fn fbe fta fba flo fse ffo fpl fne fsk fsn fw fs).2 := by
  have hsz := hI.hsz
  have hB := hI.by_
  have hhe := hI.hhe
  have hde := hI.hde
  have hpo := hI.hpo
  have hsd := hI.hsd
  have hdp := hI.run hen
  obtain ⟨hbb, hlo, hbl, hT_⟩ := hI.fr.topE hdp hhe
  unfold Q_5
  (repeat' split) <;> first | exact (by dsimp only [RIS]; exact (RI.mk hI.hsz hI.by_ hI.hfx hI.hpo (by omega) hI.hde (by omega) hI.run hI.idle hI.wa (hT_ _ (by omega)))) | exact hI
set_option maxHeartbeats 400000 in
theorem ri_6 {sz fx : Nat} {fb : Nat → Int32} {jp : Int32} {he de po sd : Nat} {en rk rn : Int32} {fk fn fbe fta fba flo fse ffo fpl fne fsk fsn fw fs : Nat → Int32}  (hI : RI sz fx po he de sd en fb fw fs fba flo fta fbe) (hen : en = 0)  : RIS sz fx fb (Q_6 sz fb jp he de po sd en rk rn fk fn fbe fta fba flo fse ffo fpl fne fsk fsn fw fs).2 := by
  have hsz := hI.hsz
  have hB := hI.by_
  have hhe := hI.hhe
  have hde := hI.hde
  have hpo := hI.hpo
  have hsd := hI.hsd
  have hdp := hI.run hen
  obtain ⟨hbb, hlo, hbl, hT_⟩ := hI.fr.topE hdp hhe
  unfold Q_6
  (repeat' split) <;> first | exact (by dsimp only [RIS]; exact (RI.mk hI.hsz hI.by_ hI.hfx hI.hpo (by omega) hI.hde (by omega) hI.run hI.idle hI.wa (hT_ _ (by omega)))) | exact hI
set_option maxHeartbeats 400000 in
theorem ri_7 {sz fx : Nat} {fb : Nat → Int32} {jp : Int32} {he de po sd : Nat} {en rk rn : Int32} {fk fn fbe fta fba flo fse ffo fpl fne fsk fsn fw fs : Nat → Int32}  (hI : RI sz fx po he de sd en fb fw fs fba flo fta fbe) (hen : en = 0)  : RIS sz fx fb (Q_7 sz fb jp he de po sd en rk rn fk fn fbe fta fba flo fse ffo fpl fne fsk fsn fw fs).2 := by
  have hsz := hI.hsz
  have hB := hI.by_
  have hhe := hI.hhe
  have hde := hI.hde
  have hpo := hI.hpo
  have hsd := hI.hsd
  have hdp := hI.run hen
  obtain ⟨hbb, hlo, hbl, hT_⟩ := hI.fr.topE hdp hhe
  unfold Q_7
  (repeat' split) <;> first | exact (by dsimp only [RIS]; exact (RI.mk hI.hsz hI.by_ hI.hfx hI.hpo (by omega) hI.hde (by omega) hI.run hI.idle hI.wa (hT_ _ (by omega)))) | exact hI
set_option maxHeartbeats 400000 in
theorem ri_8 {sz fx : Nat} {fb : Nat → Int32} {jp : Int32} {he de po sd : Nat} {en rk rn : Int32} {fk fn fbe fta fba flo fse ffo fpl fne fsk fsn fw fs : Nat → Int32}  (hI : RI sz fx po he de sd en fb fw fs fba flo fta fbe) (hen : en = 0)  : RIS sz fx fb (Q_8 sz fb jp he de po sd en rk rn fk fn fbe fta fba flo fse ffo fpl fne fsk fsn fw fs).2 := by
  have hsz := hI.hsz
  have hB := hI.by_
  have hhe := hI.hhe
  have hde := hI.hde
  have hpo := hI.hpo
  have hsd := hI.hsd
  have hdp := hI.run hen
  obtain ⟨hbb, hlo, hbl, hT_⟩ := hI.fr.topE hdp hhe
  unfold Q_8
  (repeat' split) <;> first | exact (by dsimp only [RIS]; exact (RI.mk hI.hsz hI.by_ hI.hfx hI.hpo (by omega) hI.hde (by omega) hI.run hI.idle hI.wa (hT_ _ (by omega)))) | exact hI
set_option maxHeartbeats 400000 in
theorem ri_9 {sz fx : Nat} {fb : Nat → Int32} {jp : Int32} {he de po sd : Nat} {en rk rn : Int32} {fk fn fbe fta fba flo fse ffo fpl fne fsk fsn fw fs : Nat → Int32}  (hI : RI sz fx po he de sd en fb fw fs fba flo fta fbe) (hen : en = 0)  : RIS sz fx fb (Q_9 sz fb jp he de po sd en rk rn fk fn fbe fta fba flo fse ffo fpl fne fsk fsn fw fs).2 := by
  have hsz := hI.hsz
  have hB := hI.by_
  have hhe := hI.hhe
  have hde := hI.hde
  have hpo := hI.hpo
  have hsd := hI.hsd
  have hdp := hI.run hen
  obtain ⟨hbb, hlo, hbl, hT_⟩ := hI.fr.topE hdp hhe
  unfold Q_9
  (repeat' split) <;> first | exact (by dsimp only [RIS]; exact (RI.mk hI.hsz hI.by_ hI.hfx hI.hpo (by omega) hI.hde (by omega) hI.run hI.idle hI.wa (hT_ _ (by omega)))) | exact hI
set_option maxHeartbeats 400000 in
theorem ri_10 {sz fx : Nat} {fb : Nat → Int32} {jp : Int32} {he de po sd : Nat} {en rk rn : Int32} {fk fn fbe fta fba flo fse ffo fpl fne fsk fsn fw fs : Nat → Int32}  (hI : RI sz fx po he de sd en fb fw fs fba flo fta fbe) (hen : en = 0)  : RIS sz fx fb (Q_10 sz fb jp he de po sd en rk rn fk fn fbe fta fba flo fse ffo fpl fne fsk fsn fw fs).2 := by
  have hsz := hI.hsz
  have hB := hI.by_
  have hhe := hI.hhe
  have hde := hI.hde
  have hpo := hI.hpo
  have hsd := hI.hsd
  have hdp := hI.run hen
  obtain ⟨hbb, hlo, hbl, hT_⟩ := hI.fr.topE hdp hhe
  unfold Q_10
  (repeat' split) <;> first | exact (by dsimp only [RIS]; exact (RI.mk hI.hsz hI.by_ hI.hfx hI.hpo (by omega) hI.hde (by omega) hI.run hI.idle hI.wa (hT_ _ (by omega)))) | exact hI
set_option maxHeartbeats 400000 in
theorem ri_11 {sz fx : Nat} {fb : Nat → Int32} {jp : Int32} {he de po sd : Nat} {en rk rn : Int32} {fk fn fbe fta fba flo fse ffo fpl fne fsk fsn fw fs : Nat → Int32}  (hI : RI sz fx po he de sd en fb fw fs fba flo fta fbe) (hen : en = 0)  : RIS sz fx fb (Q_11 sz fb jp he de po sd en rk rn fk fn fbe fta fba flo fse ffo fpl fne fsk fsn fw fs).2 := by
  have hsz := hI.hsz
  have hB := hI.by_
  have hhe := hI.hhe
  have hde := hI.hde
  have hpo := hI.hpo
  have hsd := hI.hsd
  have hdp := hI.run hen
  obtain ⟨hbb, hlo, hbl, hT_⟩ := hI.fr.topE hdp hhe
  unfold Q_11
  (repeat' split) <;> first | exact (by dsimp only [RIS]; exact (RI.mk hI.hsz hI.by_ hI.hfx hI.hpo (by omega) hI.hde (by omega) hI.run hI.idle hI.wa (hT_ _ (by omega)))) | exact hI
set_option maxHeartbeats 400000 in
theorem ri_12 {sz fx : Nat} {fb : Nat → Int32} {jp : Int32} {he de po sd : Nat} {en rk rn : Int32} {fk fn fbe fta fba flo fse ffo fpl fne fsk fsn fw fs : Nat → Int32}  (hI : RI sz fx po he de sd en fb fw fs fba flo fta fbe) (hen : en = 0)  : RIS sz fx fb (Q_12 sz fb jp he de po sd en rk rn fk fn fbe fta fba flo fse ffo fpl fne fsk fsn fw fs).2 := by
  have hsz := hI.hsz
  have hB := hI.by_
  have hhe := hI.hhe
  have hde := hI.hde
  have hpo := hI.hpo
  have hsd := hI.hsd
  have hdp := hI.run hen
  obtain ⟨hbb, hlo, hbl, hT_⟩ := hI.fr.topE hdp hhe
  unfold Q_12
  (repeat' split) <;> first | exact (by dsimp only [RIS]; exact (RI.mk hI.hsz hI.by_ hI.hfx hI.hpo (by omega) hI.hde (by omega) hI.run hI.idle hI.wa (hT_ _ (by omega)))) | exact hI
set_option maxHeartbeats 400000 in
theorem ri_13 {sz fx : Nat} {fb : Nat → Int32} {jp : Int32} {he de po sd : Nat} {en rk rn : Int32} {fk fn fbe fta fba flo fse ffo fpl fne fsk fsn fw fs : Nat → Int32}  (hI : RI sz fx po he de sd en fb fw fs fba flo fta fbe) (hen : en = 0)  : RIS sz fx fb (Q_13 sz fb jp he de po sd en rk rn fk fn fbe fta fba flo fse ffo fpl fne fsk fsn fw fs).2 := by
  have hsz := hI.hsz
  have hB := hI.by_
  have hhe := hI.hhe
  have hde := hI.hde
  have hpo := hI.hpo
  have hsd := hI.hsd
  have hdp := hI.run hen
  obtain ⟨hbb, hlo, hbl, hT_⟩ := hI.fr.topE hdp hhe
  unfold Q_13
  (repeat' split) <;> first | exact (by dsimp only [RIS]; exact (RI.mk hI.hsz hI.by_ hI.hfx hI.hpo (by omega) hI.hde (by omega) hI.run hI.idle hI.wa (hT_ _ (by omega)))) | exact hI
set_option maxHeartbeats 400000 in
theorem ri_14 {sz fx : Nat} {fb : Nat → Int32} {jp : Int32} {he de po sd : Nat} {en rk rn : Int32} {fk fn fbe fta fba flo fse ffo fpl fne fsk fsn fw fs : Nat → Int32}  (hI : RI sz fx po he de sd en fb fw fs fba flo fta fbe) (hen : en = 0)  : RIS sz fx fb (Q_14 sz fb jp he de po sd en rk rn fk fn fbe fta fba flo fse ffo fpl fne fsk fsn fw fs).2 := by
  have hsz := hI.hsz
  have hB := hI.by_
  have hhe := hI.hhe
  have hde := hI.hde
  have hpo := hI.hpo
  have hsd := hI.hsd
  have hdp := hI.run hen
  obtain ⟨hbb, hlo, hbl, hT_⟩ := hI.fr.topE hdp hhe
  unfold Q_14
  (repeat' split) <;> first | exact (by dsimp only [RIS]; exact (RI.mk hI.hsz hI.by_ hI.hfx hI.hpo (by omega) hI.hde (by omega) hI.run hI.idle hI.wa (hT_ _ (by omega)))) | exact hI
set_option maxHeartbeats 400000 in
theorem ri_15 {sz fx : Nat} {fb : Nat → Int32} {jp : Int32} {he de po sd : Nat} {en rk rn : Int32} {fk fn fbe fta fba flo fse ffo fpl fne fsk fsn fw fs : Nat → Int32}  (hI : RI sz fx po he de sd en fb fw fs fba flo fta fbe) (hen : en = 0)  : RIS sz fx fb (Q_15 sz fb jp he de po sd en rk rn fk fn fbe fta fba flo fse ffo fpl fne fsk fsn fw fs).2 := by
  have hsz := hI.hsz
  have hB := hI.by_
  have hhe := hI.hhe
  have hde := hI.hde
  have hpo := hI.hpo
  have hsd := hI.hsd
  have hdp := hI.run hen
  obtain ⟨hbb, hlo, hbl, hT_⟩ := hI.fr.topE hdp hhe
  unfold Q_15
  (repeat' split) <;> first | exact ri_toss (jp := jp) hI hen (by omega) | exact (by dsimp only [RIS]; exact (RI.mk hI.hsz hI.by_ hI.hfx hI.hpo (by omega) hI.hde (by omega) hI.run hI.idle hI.wa (hT_ _ (by omega)))) | exact hI
set_option maxHeartbeats 400000 in
theorem ri_16 {sz fx : Nat} {fb : Nat → Int32} {jp : Int32} {he de po sd : Nat} {en rk rn : Int32} {fk fn fbe fta fba flo fse ffo fpl fne fsk fsn fw fs : Nat → Int32}  (hI : RI sz fx po he de sd en fb fw fs fba flo fta fbe) (hen : en = 0)  : RIS sz fx fb (Q_16 sz fb jp he de po sd en rk rn fk fn fbe fta fba flo fse ffo fpl fne fsk fsn fw fs).2 := by
  have hsz := hI.hsz
  have hB := hI.by_
  have hhe := hI.hhe
  have hde := hI.hde
  have hpo := hI.hpo
  have hsd := hI.hsd
  have hdp := hI.run hen
  obtain ⟨hbb, hlo, hbl, hT_⟩ := hI.fr.topE hdp hhe
  unfold Q_16
  (repeat' split) <;> first | exact (by dsimp only [RIS]; exact (RI.mk hI.hsz hI.by_ hI.hfx hI.hpo (by omega) hI.hde (by omega) hI.run hI.idle hI.wa (hT_ _ (by omega)))) | exact hI
set_option maxHeartbeats 400000 in
theorem ri_17 {sz fx : Nat} {fb : Nat → Int32} {jp : Int32} {he de po sd : Nat} {en rk rn : Int32} {fk fn fbe fta fba flo fse ffo fpl fne fsk fsn fw fs : Nat → Int32}  (hI : RI sz fx po he de sd en fb fw fs fba flo fta fbe) (hen : en = 0)  : RIS sz fx fb (Q_17 sz fb jp he de po sd en rk rn fk fn fbe fta fba flo fse ffo fpl fne fsk fsn fw fs).2 := by
  have hsz := hI.hsz
  have hB := hI.by_
  have hhe := hI.hhe
  have hde := hI.hde
  have hpo := hI.hpo
  have hsd := hI.hsd
  have hdp := hI.run hen
  obtain ⟨hbb, hlo, hbl, hT_⟩ := hI.fr.topE hdp hhe
  unfold Q_17
  (repeat' split) <;> first | exact (by dsimp only [RIS]; exact (RI.mk hI.hsz hI.by_ hI.hfx hI.hpo (by omega) hI.hde (by omega) hI.run hI.idle hI.wa (hT_ _ (by omega)))) | exact hI
set_option maxHeartbeats 400000 in
theorem ri_18 {sz fx : Nat} {fb : Nat → Int32} {jp : Int32} {he de po sd : Nat} {en rk rn : Int32} {fk fn fbe fta fba flo fse ffo fpl fne fsk fsn fw fs : Nat → Int32}  (hI : RI sz fx po he de sd en fb fw fs fba flo fta fbe) (hen : en = 0)  : RIS sz fx fb (Q_18 sz fb jp he de po sd en rk rn fk fn fbe fta fba flo fse ffo fpl fne fsk fsn fw fs).2 := by
  have hsz := hI.hsz
  have hB := hI.by_
  have hhe := hI.hhe
  have hde := hI.hde
  have hpo := hI.hpo
  have hsd := hI.hsd
  have hdp := hI.run hen
  obtain ⟨hbb, hlo, hbl, hT_⟩ := hI.fr.topE hdp hhe
  unfold Q_18
  (repeat' split) <;> first | exact (by dsimp only [RIS]; exact (RI.mk hI.hsz hI.by_ hI.hfx hI.hpo (by omega) hI.hde (by omega) hI.run hI.idle hI.wa (hT_ _ (by omega)))) | exact hI
set_option maxHeartbeats 400000 in
theorem ri_19 {sz fx : Nat} {fb : Nat → Int32} {jp : Int32} {he de po sd : Nat} {en rk rn : Int32} {fk fn fbe fta fba flo fse ffo fpl fne fsk fsn fw fs : Nat → Int32}  (hI : RI sz fx po he de sd en fb fw fs fba flo fta fbe) (hen : en = 0)  : RIS sz fx fb (Q_19 sz fb jp he de po sd en rk rn fk fn fbe fta fba flo fse ffo fpl fne fsk fsn fw fs).2 := by
  have hsz := hI.hsz
  have hB := hI.by_
  have hhe := hI.hhe
  have hde := hI.hde
  have hpo := hI.hpo
  have hsd := hI.hsd
  have hdp := hI.run hen
  obtain ⟨hbb, hlo, hbl, hT_⟩ := hI.fr.topE hdp hhe
  unfold Q_19
  (repeat' split) <;> first | exact (by dsimp only [RIS]; exact (RI.mk hI.hsz hI.by_ hI.hfx hI.hpo (by omega) hI.hde (by omega) hI.run hI.idle hI.wa (hT_ _ (by omega)))) | exact hI
set_option maxHeartbeats 400000 in
theorem ri_20 {sz fx : Nat} {fb : Nat → Int32} {jp : Int32} {he de po sd : Nat} {en rk rn : Int32} {fk fn fbe fta fba flo fse ffo fpl fne fsk fsn fw fs : Nat → Int32}  (hI : RI sz fx po he de sd en fb fw fs fba flo fta fbe) (hen : en = 0)  : RIS sz fx fb (Q_20 sz fb jp he de po sd en rk rn fk fn fbe fta fba flo fse ffo fpl fne fsk fsn fw fs).2 := by
  have hsz := hI.hsz
  have hB := hI.by_
  have hhe := hI.hhe
  have hde := hI.hde
  have hpo := hI.hpo
  have hsd := hI.hsd
  have hdp := hI.run hen
  obtain ⟨hbb, hlo, hbl, hT_⟩ := hI.fr.topE hdp hhe
  unfold Q_20
  (repeat' split) <;> first | exact (by dsimp only [RIS]; exact (RI.mk hI.hsz hI.by_ hI.hfx hI.hpo (by omega) hI.hde (by omega) hI.run hI.idle hI.wa (hT_ _ (by omega)))) | exact hI
set_option maxHeartbeats 400000 in
theorem ri_21 {sz fx : Nat} {fb : Nat → Int32} {jp : Int32} {he de po sd : Nat} {en rk rn : Int32} {fk fn fbe fta fba flo fse ffo fpl fne fsk fsn fw fs : Nat → Int32}  (hI : RI sz fx po he de sd en fb fw fs fba flo fta fbe) (hen : en = 0)  : RIS sz fx fb (Q_21 sz fb jp he de po sd en rk rn fk fn fbe fta fba flo fse ffo fpl fne fsk fsn fw fs).2 := by
  have hsz := hI.hsz
  have hB := hI.by_
  have hhe := hI.hhe
  have hde := hI.hde
  have hpo := hI.hpo
  have hsd := hI.hsd
  have hdp := hI.run hen
  obtain ⟨hbb, hlo, hbl, hT_⟩ := hI.fr.topE hdp hhe
  unfold Q_21
  (repeat' split) <;> first | exact ri_ask (jp := jp) hI hen (by omega) (by omega) (by omega) | exact hI
set_option maxHeartbeats 400000 in
theorem ri_22 {sz fx : Nat} {fb : Nat → Int32} {jp : Int32} {he de po sd : Nat} {en rk rn : Int32} {fk fn fbe fta fba flo fse ffo fpl fne fsk fsn fw fs : Nat → Int32}  (hI : RI sz fx po he de sd en fb fw fs fba flo fta fbe) (hen : en = 0)  : RIS sz fx fb (Q_22 sz fb jp he de po sd en rk rn fk fn fbe fta fba flo fse ffo fpl fne fsk fsn fw fs).2 := by
  have hsz := hI.hsz
  have hB := hI.by_
  have hhe := hI.hhe
  have hde := hI.hde
  have hpo := hI.hpo
  have hsd := hI.hsd
  have hdp := hI.run hen
  obtain ⟨hbb, hlo, hbl, hT_⟩ := hI.fr.topE hdp hhe
  unfold Q_22
  (repeat' split) <;> first | exact (by rename_i hx9; obtain ⟨ej9, hj9, tj9⟩ := hx9.2.ix; have G9 := give_ok (g := GIVE fw (fn (he - 1)).toNatClampNeg (ab fb sz jp) (fk (he - 2)) (fn (he - 2))) (oo := (fn (he - 1)).toNatClampNeg) (p_ := ab fb sz jp) hj9 (by assumption) hI.wa.1 give_far; exact (by dsimp only [RIS]; exact (RI.mk hI.hsz hI.by_ hI.hfx hI.hpo (by omega) hI.hde hI.hsd hI.run hI.idle (hI.wa.zero G9.1 G9.2) (hT_ _ (by omega))))) | exact hI
set_option maxHeartbeats 400000 in
theorem ri_23 {sz fx : Nat} {fb : Nat → Int32} {jp : Int32} {he de po sd : Nat} {en rk rn : Int32} {fk fn fbe fta fba flo fse ffo fpl fne fsk fsn fw fs : Nat → Int32}  (hI : RI sz fx po he de sd en fb fw fs fba flo fta fbe) (hen : en = 0)  : RIS sz fx fb (Q_23 sz fb jp he de po sd en rk rn fk fn fbe fta fba flo fse ffo fpl fne fsk fsn fw fs).2 := by
  have hsz := hI.hsz
  have hB := hI.by_
  have hhe := hI.hhe
  have hde := hI.hde
  have hpo := hI.hpo
  have hsd := hI.hsd
  have hdp := hI.run hen
  obtain ⟨hbb, hlo, hbl, hT_⟩ := hI.fr.topE hdp hhe
  unfold Q_23
  (repeat' split) <;> first | exact ri_ask (jp := jp) hI hen (by omega) (by omega) (by omega) | exact hI
set_option maxHeartbeats 400000 in
theorem ri_24 {sz fx : Nat} {fb : Nat → Int32} {jp : Int32} {he de po sd : Nat} {en rk rn : Int32} {fk fn fbe fta fba flo fse ffo fpl fne fsk fsn fw fs : Nat → Int32}  (hI : RI sz fx po he de sd en fb fw fs fba flo fta fbe) (hen : en = 0)  : RIS sz fx fb (Q_24 sz fb jp he de po sd en rk rn fk fn fbe fta fba flo fse ffo fpl fne fsk fsn fw fs).2 := by
  have hsz := hI.hsz
  have hB := hI.by_
  have hhe := hI.hhe
  have hde := hI.hde
  have hpo := hI.hpo
  have hsd := hI.hsd
  have hdp := hI.run hen
  obtain ⟨hbb, hlo, hbl, hT_⟩ := hI.fr.topE hdp hhe
  unfold Q_24
  generalize nI (256 * ab fb sz (jp + 1) + ab fb sz (jp + 1 + 1)) = ad9
  split
  · split
    · exact (by have h9 := ri_call (sz := sz) (fx := fx) (fb := fb) (jp := jp) (ad := ad9) (n0 := ab fb sz jp) (gg := 0) (ob := -1) (ow := -1) (he := he) (de := de) (po := po) (sd := sd) (en := en) (rk := rk) (rn := rn) (fk := fk) (fn := fn) (fbe := fbe) (fta := fta) (fba := fba) (flo := flo) (fse := fse) (ffo := ffo) (fpl := fpl) (fne := fne) (fsk := fsk) (fsn := fsn) (fw := fw) (fs := fs) hI hen (by omega) (by omega) (by omega); exact h9)
    · exact hI
  · exact hI
set_option maxHeartbeats 400000 in
theorem ri_25 {sz fx : Nat} {fb : Nat → Int32} {jp : Int32} {he de po sd : Nat} {en rk rn : Int32} {fk fn fbe fta fba flo fse ffo fpl fne fsk fsn fw fs : Nat → Int32}  (hI : RI sz fx po he de sd en fb fw fs fba flo fta fbe) (hen : en = 0)  : RIS sz fx fb (Q_25 sz fb jp he de po sd en rk rn fk fn fbe fta fba flo fse ffo fpl fne fsk fsn fw fs).2 := by
  have hsz := hI.hsz
  have hB := hI.by_
  have hhe := hI.hhe
  have hde := hI.hde
  have hpo := hI.hpo
  have hsd := hI.hsd
  have hdp := hI.run hen
  obtain ⟨hbb, hlo, hbl, hT_⟩ := hI.fr.topE hdp hhe
  unfold Q_25
  (repeat' split) <;> first | exact ri_end (jp := jp) hI hen | exact hI
set_option maxHeartbeats 400000 in
theorem ri_26 {sz fx : Nat} {fb : Nat → Int32} {jp : Int32} {he de po sd : Nat} {en rk rn : Int32} {fk fn fbe fta fba flo fse ffo fpl fne fsk fsn fw fs : Nat → Int32}  (hI : RI sz fx po he de sd en fb fw fs fba flo fta fbe) (hen : en = 0)  : RIS sz fx fb (Q_26 sz fb jp he de po sd en rk rn fk fn fbe fta fba flo fse ffo fpl fne fsk fsn fw fs).2 := by
  have hsz := hI.hsz
  have hB := hI.by_
  have hhe := hI.hhe
  have hde := hI.hde
  have hpo := hI.hpo
  have hsd := hI.hsd
  have hdp := hI.run hen
  obtain ⟨hbb, hlo, hbl, hT_⟩ := hI.fr.topE hdp hhe
  unfold Q_26
  (repeat' split) <;> first | exact ri_end (jp := jp) hI hen | exact hI
set_option maxHeartbeats 400000 in
theorem ri_27 {sz fx : Nat} {fb : Nat → Int32} {jp : Int32} {he de po sd : Nat} {en rk rn : Int32} {fk fn fbe fta fba flo fse ffo fpl fne fsk fsn fw fs : Nat → Int32}  (hI : RI sz fx po he de sd en fb fw fs fba flo fta fbe) (hen : en = 0)  : RIS sz fx fb (Q_27 sz fb jp he de po sd en rk rn fk fn fbe fta fba flo fse ffo fpl fne fsk fsn fw fs).2 := by
  have hsz := hI.hsz
  have hB := hI.by_
  have hhe := hI.hhe
  have hde := hI.hde
  have hpo := hI.hpo
  have hsd := hI.hsd
  have hdp := hI.run hen
  obtain ⟨hbb, hlo, hbl, hT_⟩ := hI.fr.topE hdp hhe
  unfold Q_27
  (repeat' split) <;> first | exact ri_toss (jp := jp) hI hen (by omega) | exact hI
set_option maxHeartbeats 400000 in
theorem ri_28 {sz fx : Nat} {fb : Nat → Int32} {jp : Int32} {he de po sd : Nat} {en rk rn : Int32} {fk fn fbe fta fba flo fse ffo fpl fne fsk fsn fw fs : Nat → Int32}  (hI : RI sz fx po he de sd en fb fw fs fba flo fta fbe) (hen : en = 0)  : RIS sz fx fb (Q_28 sz fb jp he de po sd en rk rn fk fn fbe fta fba flo fse ffo fpl fne fsk fsn fw fs).2 := by
  have hsz := hI.hsz
  have hB := hI.by_
  have hhe := hI.hhe
  have hde := hI.hde
  have hpo := hI.hpo
  have hsd := hI.hsd
  have hdp := hI.run hen
  obtain ⟨hbb, hlo, hbl, hT_⟩ := hI.fr.topE hdp hhe
  unfold Q_28 MKF MAKEW
  (repeat' split) <;> first | exact (by obtain ⟨l1, l2, l3⟩ := lowf_ge (fw := fw) 16 16; have hx9 : TH fw (nI (ab fb sz jp)) := (by assumption); obtain ⟨p1, p2⟩ := TH.nat (by have := ab_le (p := jp) hB hsz; omega) hx9; have G9 := make_ok (g := EMP fw (lowf fw 16 16)) (x := lowf fw 16 16) (pp := ab fb sz jp) hI.wa.1 l1 (by assumption) (l3 (by assumption)) p1 p2 EMP_far; exact (by dsimp only [RIS]; exact (RI.mk hI.hsz hI.by_ hI.hfx hI.hpo (by omega) hI.hde hI.hsd hI.run hI.idle (hI.wa.zero G9.1 G9.2) (hT_ _ (by omega))))) | exact hI
set_option maxHeartbeats 400000 in
theorem ri_29 {sz fx : Nat} {fb : Nat → Int32} {jp : Int32} {he de po sd : Nat} {en rk rn : Int32} {fk fn fbe fta fba flo fse ffo fpl fne fsk fsn fw fs : Nat → Int32}  (hI : RI sz fx po he de sd en fb fw fs fba flo fta fbe) (hen : en = 0)  : RIS sz fx fb (Q_29 sz fb jp he de po sd en rk rn fk fn fbe fta fba flo fse ffo fpl fne fsk fsn fw fs).2 := by
  have hsz := hI.hsz
  have hB := hI.by_
  have hhe := hI.hhe
  have hde := hI.hde
  have hpo := hI.hpo
  have hsd := hI.hsd
  have hdp := hI.run hen
  obtain ⟨hbb, hlo, hbl, hT_⟩ := hI.fr.topE hdp hhe
  unfold Q_29
  (repeat' split) <;> first | exact (by dsimp only [RIS]; exact (RI.mk hI.hsz hI.by_ hI.hfx hI.hpo (by omega) hI.hde (by omega) hI.run hI.idle hI.wa (hT_ _ (by omega)))) | exact hI
set_option maxHeartbeats 400000 in
theorem ri_30 {sz fx : Nat} {fb : Nat → Int32} {jp : Int32} {he de po sd : Nat} {en rk rn : Int32} {fk fn fbe fta fba flo fse ffo fpl fne fsk fsn fw fs : Nat → Int32}  (hI : RI sz fx po he de sd en fb fw fs fba flo fta fbe) (hen : en = 0)  : RIS sz fx fb (Q_30 sz fb jp he de po sd en rk rn fk fn fbe fta fba flo fse ffo fpl fne fsk fsn fw fs).2 := by
  have hsz := hI.hsz
  have hB := hI.by_
  have hhe := hI.hhe
  have hde := hI.hde
  have hpo := hI.hpo
  have hsd := hI.hsd
  have hdp := hI.run hen
  obtain ⟨hbb, hlo, hbl, hT_⟩ := hI.fr.topE hdp hhe
  unfold Q_30
  (repeat' split) <;> first | exact (by dsimp only [RIS]; exact (RI.mk hI.hsz hI.by_ hI.hfx hI.hpo (by omega) hI.hde (by omega) hI.run hI.idle hI.wa (hT_ _ (by omega)))) | exact hI
set_option maxHeartbeats 400000 in
theorem ri_31 {sz fx : Nat} {fb : Nat → Int32} {jp : Int32} {he de po sd : Nat} {en rk rn : Int32} {fk fn fbe fta fba flo fse ffo fpl fne fsk fsn fw fs : Nat → Int32}  (hI : RI sz fx po he de sd en fb fw fs fba flo fta fbe) (hen : en = 0)  : RIS sz fx fb (Q_31 sz fb jp he de po sd en rk rn fk fn fbe fta fba flo fse ffo fpl fne fsk fsn fw fs).2 := by
  have hsz := hI.hsz
  have hB := hI.by_
  have hhe := hI.hhe
  have hde := hI.hde
  have hpo := hI.hpo
  have hsd := hI.hsd
  have hdp := hI.run hen
  obtain ⟨hbb, hlo, hbl, hT_⟩ := hI.fr.topE hdp hhe
  unfold Q_31
  (repeat' split) <;> first | exact (by dsimp only [RIS]; exact (RI.mk hI.hsz hI.by_ hI.hfx (by omega) hI.hhe hI.hde hI.hsd hI.run (fun z => absurd hen z) (by have A1 := hI.wa.cpt (po2 := 3) (fr := 2) (hI.wa.2.1 2 (by decide) (by omega)) (by decide) (by decide) (fun v _ _ => by omega) (CPY_cp (a := 2) (b := 1)); have A2 := A1.cpt (po2 := 2) (fr := 3) (A1.2.1 3 (by decide) (by decide)) (by decide) (by decide) (fun v _ _ => by omega) (CPY_cp (a := 3) (b := 2)); exact A2.cpt (po2 := 3) (fr := 0) A2.1.zero (by decide) (by decide) (fun v _ _ => by omega) CPY_cp) hI.fr)) | exact (by dsimp only [RIS]; exact (RI.mk hI.hsz hI.by_ hI.hfx (by omega) hI.hhe hI.hde hI.hsd hI.run (fun z => absurd hen z) (hI.wa.cpt (po2 := po + 1) (fr := 0) hI.wa.1.zero (by omega) (by omega) (fun v _ _ => by omega) CPY_cp) hI.fr)) | exact hI
set_option maxHeartbeats 400000 in
theorem ri_32 {sz fx : Nat} {fb : Nat → Int32} {jp : Int32} {he de po sd : Nat} {en rk rn : Int32} {fk fn fbe fta fba flo fse ffo fpl fne fsk fsn fw fs : Nat → Int32}  (hI : RI sz fx po he de sd en fb fw fs fba flo fta fbe) (hen : en = 0)  : RIS sz fx fb (Q_32 sz fb jp he de po sd en rk rn fk fn fbe fta fba flo fse ffo fpl fne fsk fsn fw fs).2 := by
  have hsz := hI.hsz
  have hB := hI.by_
  have hhe := hI.hhe
  have hde := hI.hde
  have hpo := hI.hpo
  have hsd := hI.hsd
  have hdp := hI.run hen
  obtain ⟨hbb, hlo, hbl, hT_⟩ := hI.fr.topE hdp hhe
  unfold Q_32
  (repeat' split) <;> first | exact (by dsimp only [RIS]; exact (RI.mk hI.hsz hI.by_ hI.hfx (by omega) (by omega) hI.hde hI.hsd hI.run (fun z => absurd hen z) (hI.wa.back (fr := po) (hI.wa.2.1 po (by omega) (by omega)) (by omega) CPY_cp) (hT_ _ (by omega)))) | exact (by dsimp only [RIS]; exact (RI.mk hI.hsz hI.by_ hI.hfx (by omega) (by omega) hI.hde hI.hsd hI.run (fun z => absurd hen z) (hI.wa.po (by omega)) (hT_ _ (by omega)))) | exact hI
set_option maxHeartbeats 400000 in
theorem ri_33 {sz fx : Nat} {fb : Nat → Int32} {jp : Int32} {he de po sd : Nat} {en rk rn : Int32} {fk fn fbe fta fba flo fse ffo fpl fne fsk fsn fw fs : Nat → Int32}  (hI : RI sz fx po he de sd en fb fw fs fba flo fta fbe) (hen : en = 0)  : RIS sz fx fb (Q_33 sz fb jp he de po sd en rk rn fk fn fbe fta fba flo fse ffo fpl fne fsk fsn fw fs).2 := by
  have hsz := hI.hsz
  have hB := hI.by_
  have hhe := hI.hhe
  have hde := hI.hde
  have hpo := hI.hpo
  have hsd := hI.hsd
  have hdp := hI.run hen
  obtain ⟨hbb, hlo, hbl, hT_⟩ := hI.fr.topE hdp hhe
  unfold Q_33
  (repeat' split) <;> first | exact (by dsimp only [RIS]; exact (RI.mk hI.hsz hI.by_ hI.hfx hI.hpo hI.hhe hI.hde hI.hsd hI.run hI.idle (hI.wa.save (k := ab fb sz jp) hpo (by omega) CPY_cp) hI.fr)) | exact hI
set_option maxHeartbeats 400000 in
theorem ri_34 {sz fx : Nat} {fb : Nat → Int32} {jp : Int32} {he de po sd : Nat} {en rk rn : Int32} {fk fn fbe fta fba flo fse ffo fpl fne fsk fsn fw fs : Nat → Int32}  (hI : RI sz fx po he de sd en fb fw fs fba flo fta fbe) (hen : en = 0)  : RIS sz fx fb (Q_34 sz fb jp he de po sd en rk rn fk fn fbe fta fba flo fse ffo fpl fne fsk fsn fw fs).2 := by
  have hsz := hI.hsz
  have hB := hI.by_
  have hhe := hI.hhe
  have hde := hI.hde
  have hpo := hI.hpo
  have hsd := hI.hsd
  have hdp := hI.run hen
  obtain ⟨hbb, hlo, hbl, hT_⟩ := hI.fr.topE hdp hhe
  unfold Q_34
  (repeat' split) <;> first | exact (by dsimp only [RIS]; exact (RI.mk hI.hsz hI.by_ hI.hfx (by omega) (by omega) hI.hde hI.hsd hI.run (fun z => absurd hen z) hI.wa (hT_ _ (by omega)))) | exact (by dsimp only [RIS]; exact (RI.mk hI.hsz hI.by_ hI.hfx (by omega) (by omega) hI.hde hI.hsd hI.run (fun z => absurd hen z) (hI.wa.back (fr := 4 + ab fb sz jp) (hI.wa.2.2 (ab fb sz jp) (by omega) (by assumption)) (by omega) CPY_cp) (hT_ _ (by omega)))) | exact hI
theorem ri_QF {sz fx : Nat} {fb : Nat → Int32} {jp : Int32} {he de po sd : Nat} {en rk rn : Int32} {fk fn fbe fta fba flo fse ffo fpl fne fsk fsn fw fs : Nat → Int32} {k : Nat} (hI : RI sz fx po he de sd en fb fw fs fba flo fta fbe) (hen : en = 0) (hk : k < 35) : RIS sz fx fb (QF k sz fb jp he de po sd en rk rn fk fn fbe fta fba flo fse ffo fpl fne fsk fsn fw fs).2 := by
  match k, hk with
  | 0, _ => exact ri_0 (jp := jp) hI hen
  | 1, _ => exact ri_1 (jp := jp) hI hen
  | 2, _ => exact ri_2 (jp := jp) hI hen
  | 3, _ => exact ri_3 (jp := jp) hI hen
  | 4, _ => exact ri_4 (jp := jp) hI hen
  | 5, _ => exact ri_5 (jp := jp) hI hen
  | 6, _ => exact ri_6 (jp := jp) hI hen
  | 7, _ => exact ri_7 (jp := jp) hI hen
  | 8, _ => exact ri_8 (jp := jp) hI hen
  | 9, _ => exact ri_9 (jp := jp) hI hen
  | 10, _ => exact ri_10 (jp := jp) hI hen
  | 11, _ => exact ri_11 (jp := jp) hI hen
  | 12, _ => exact ri_12 (jp := jp) hI hen
  | 13, _ => exact ri_13 (jp := jp) hI hen
  | 14, _ => exact ri_14 (jp := jp) hI hen
  | 15, _ => exact ri_15 (jp := jp) hI hen
  | 16, _ => exact ri_16 (jp := jp) hI hen
  | 17, _ => exact ri_17 (jp := jp) hI hen
  | 18, _ => exact ri_18 (jp := jp) hI hen
  | 19, _ => exact ri_19 (jp := jp) hI hen
  | 20, _ => exact ri_20 (jp := jp) hI hen
  | 21, _ => exact ri_21 (jp := jp) hI hen
  | 22, _ => exact ri_22 (jp := jp) hI hen
  | 23, _ => exact ri_23 (jp := jp) hI hen
  | 24, _ => exact ri_24 (jp := jp) hI hen
  | 25, _ => exact ri_25 (jp := jp) hI hen
  | 26, _ => exact ri_26 (jp := jp) hI hen
  | 27, _ => exact ri_27 (jp := jp) hI hen
  | 28, _ => exact ri_28 (jp := jp) hI hen
  | 29, _ => exact ri_29 (jp := jp) hI hen
  | 30, _ => exact ri_30 (jp := jp) hI hen
  | 31, _ => exact ri_31 (jp := jp) hI hen
  | 32, _ => exact ri_32 (jp := jp) hI hen
  | 33, _ => exact ri_33 (jp := jp) hI hen
  | 34, _ => exact ri_34 (jp := jp) hI hen
  | n9 + 35, h => exact absurd h (by omega)
theorem ri_go {sz fx d : Nat} {fb : Nat → Int32} (x : Int32 × RS) (h : RIS sz fx fb x.2) : RIS sz fx fb (GOF d x).2 := by
  unfold GOF
  by_cases hr : x.1 = 0
  · rw [if_pos hr]; exact h
  · rw [if_neg hr]; exact h
set_option maxHeartbeats 1000000 in
theorem ri_one {sz fx : Nat} {fb : Nat → Int32} {jp : Int32} {he de po sd : Nat} {en rk rn : Int32} {fk fn fbe fta fba flo fse ffo fpl fne fsk fsn fw fs : Nat → Int32} (hI : RI sz fx po he de sd en fb fw fs fba flo fta fbe) (hen : en = 0) : RIS sz fx fb (ONEC sz fb he de po sd en rk rn fk fn fbe fta fba flo fse ffo fpl fne fsk fsn fw fs).2 := by
  unfold ONEC
  by_cases hv : VLD sz fb (fpl (de - 1))
  · rw [if_pos hv]
    have hq := ri_QF (sz := sz) (fx := fx) (fb := fb) (jp := fpl (de - 1) + 1) (he := he) (de := de) (po := po) (sd := sd) (en := en) (rk := rk) (rn := rn) (fk := fk) (fn := fn) (fbe := fbe) (fta := fta) (fba := fba) (flo := flo) (fse := fse) (ffo := ffo) (fpl := fpl) (fne := (upd fne (de - 1) (fpl (de - 1) + nI (LNN (ab fb sz (fpl (de - 1))))))) (fsk := fsk) (fsn := fsn) (fw := fw) (fs := fs) (k := ab fb sz (fpl (de - 1))) hI hen (by have := hv.1; omega)
    unfold OPF
    generalize QF (ab fb sz (fpl (de - 1))) sz fb (fpl (de - 1) + 1) he de po sd en rk rn fk fn fbe fta fba flo fse ffo fpl (upd fne (de - 1) (fpl (de - 1) + nI (LNN (ab fb sz (fpl (de - 1)))))) fsk fsn fw fs = x at hq ⊢
    by_cases hs : ab fb sz (fpl (de - 1)) = 15 ∨ ab fb sz (fpl (de - 1)) = 21 ∨ ab fb sz (fpl (de - 1)) = 23 ∨ ab fb sz (fpl (de - 1)) = 24 ∨ ab fb sz (fpl (de - 1)) = 25 ∨ ab fb sz (fpl (de - 1)) = 26 ∨ ab fb sz (fpl (de - 1)) = 27
    · rw [if_pos hs]; exact hq
    · rw [if_neg hs]; exact ri_go x hq
  · rw [if_neg hv]; exact hI
