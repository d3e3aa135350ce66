theorem tv00 {n : Nat} : ∀ j, j < n → (fun _ : Nat => (0 : Int32)) j = TV (fun _ => 0) (fun _ => 0) j := fun _ _ => by
  show (0 : Int32) = tv 0 0
  decide
theorem WR.first : WR (fun _ => 0) 0 (fun _ => 0) (fun _ => 0) (fun _ => -1) (fun _ => 0) (fun _ => -1) := by
  refine ⟨⟨⟨fun _ => 0, fun o _ h => absurd (show (0 : Int32) = 1 from h) (by decide)⟩, by decide, fun i hi => absurd hi (Nat.not_lt_zero i), fun o _ _ h => absurd (show (0 : Int32) = 1 from h) (by decide), fun o _ _ => ⟨Or.inl rfl, ⟨fun h => absurd (show (0 : Int32) = 1 from h) (by decide), fun h => absurd rfl h⟩, fun h => absurd (show (0 : Int32) = 1 from h) (by decide)⟩⟩, fun o _ p _ => ⟨fun h => absurd (show (0 : Int32) = 1 from h) (by decide), fun _ => rfl⟩, fun o _ _ p _ h => absurd (show (0 : Int32) = 1 from h) (by decide)⟩
theorem REL.first : REL 0 (fun _ => 0) (fun _ => 0) (fun _ => 0) (fun _ => 0) (fun _ => 0) (fun _ => 0) (fun _ => 0) (fun _ => 0) (fun _ => 0) 0 (fun _ => 0) (fun _ => 0) (-1) 0 0 (fun _ => 0) 0 (fun _ => 0) (fun _ => 0) (fun _ => -1) (fun _ => 0) (fun _ => -1) 0 (fun _ => -1) (fun _ => 0) (fun _ => -1) (fun _ => -1) (fun _ => 0) (fun _ => -1) (fun _ => -1) (fun _ => 0) (fun _ => -1) (fun _ => 0) (fun _ => -1) (fun _ => 0) (fun _ => -1) (fun _ => -1) (fun _ => 0) (fun _ => -1) := ⟨⟨fun i hi => absurd hi (Nat.not_lt_zero i), fun i hi => absurd hi (Nat.not_lt_zero _)⟩, WR.first, fun _ => ⟨show ¬ (0 : Int32) = -1 from by decide, fun _ => rfl⟩, Or.inl ⟨rfl, rfl, rfl⟩, PTR.none, ⟨fun h => absurd rfl h, fun h => absurd rfl h⟩, rfl⟩
theorem ocd_0 {fw : Nat → Int32} {fx : Nat} {en a b c : Int32} (h : OCD fw fx en a b c = 0) : ¬ en = 0 := by
  unfold OCD at h
  split at h
  · split at h
    · exact absurd h (by decide)
    · rename_i h2; exact fun z => h2 (Or.inl z)
  · exact absurd h (by decide)
theorem pcd_0 {fw : Nat → Int32} {en aa pv kv vv : Int32} (h : PCD fw en aa pv kv vv = 0) : TH fw aa ∧ FITP fw pv kv vv ∧ ¬ en = 0 := by
  unfold PCD at h
  split at h
  · split at h
    · split at h
      · exact absurd h (by decide)
      · exact ⟨by assumption, by assumption, by assumption⟩
    · exact absurd h (by decide)
  · exact absurd h (by decide)
theorem prw_far {fw : Nat → Int32} {en aa pv kv vv : Int32} (h : PCD fw en aa pv kv vv = 0) : ∀ j, 928 ≤ j → PRW fw aa.toNatClampNeg pv.toNatClampNeg kv vv j = fw j := by
  obtain ⟨h1, h2, -⟩ := pcd_0 h
  obtain ⟨pj, hpj, hpe⟩ := ix_le 7 (by decide) h2.1
  subst hpe
  rw [nI_clamp (by omega)]
  exact PRW_hi h1.ix.2.1 (by omega)
theorem WR.wo {fw ffl ffn fkd fit fpa : Nat → Int32} {fx : Nat} (h : WR fw fx ffl ffn fkd fit fpa) : WO fw fx := ⟨h.1.1, fun o h1 h2 => h.1.2.2.2.1 o h1 h2⟩
theorem SVR.none {fw fs : Nat → Int32} {fx : Nat} {ffl ffn gk3 gi3 gr3 gk4 gi4 gr4 : Nat → Int32} (h0 : fs 0 = 0) (h1 : fs 1 = 0) : SVR fw fs fx ffl ffn gk3 gi3 gr3 gk4 gi4 gr4 := ⟨fun z => absurd h0 z, fun z => absurd h1 z⟩
theorem begf_no {sz : Nat} {fb : Nat → Int32} {he de po sd : Nat} {en rk rn : Int32} {fk fn fbe fta fba flo fse ffo fpl fne fsk fsn fw fs : Nat → Int32} {aa pv : Int32} (h : ¬ BCD fw fb sz en aa pv = 0) : (BEGF aa pv sz fb he de po sd en rk rn fk fn fbe fta fba flo fse ffo fpl fne fsk fsn fw fs).2 = (he, de, po, sd, en, rk, rn, fk, fn, fbe, fta, fba, flo, fse, ffo, fpl, fne, fsk, fsn, fw, fs) := by
  unfold BEGF
  rw [if_neg h]
theorem byt_by (w n : Int32) : ∃ b, b ≤ 255 ∧ BYT w n = nI b := by_and _
theorem stp_eq {en r1 r2 e1 e2 : Int32} {po p1 p2 : Nat} (h1 : (en = 0 ∧ r1 = 1 ∧ e1 = 4 ∧ p1 = 0) ∨ (¬ en = 0 ∧ r1 = 0 ∧ e1 = en ∧ p1 = po)) (h2 : (en = 0 ∧ r2 = 1 ∧ (e2, p2) = (4, 0)) ∨ (¬ en = 0 ∧ r2 = 0 ∧ (e2, p2) = (en, po))) : r1 = r2 := by
  rcases h1 with ⟨a, b, -⟩ | ⟨a, b, -⟩ <;> rcases h2 with ⟨c, d, -⟩ | ⟨c, d, -⟩
  · rw [b, d]
  · exact absurd a c
  · exact absurd c a
  · rw [b, d]
