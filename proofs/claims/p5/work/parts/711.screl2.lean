/-! frames, results, worlds -/
def FRY (de : Nat) (xm xl xh fta fba flo fne : Nat → Int32) : Prop := ∀ i, i < de → xm i + 3 = fta i ∧ xl i = nI (bs fba i + bs flo i) ∧ xh i = fne i
def FRX (de : Nat) (xm xl xh fta fba flo fne : Nat → Int32) : Prop := (∀ i, i < de → xm i + 3 = fta i ∧ xl i = nI (bs fba i + bs flo i)) ∧ ∀ i, i + 1 < de → xh i = fne i
theorem FRY.x {de : Nat} {xm xl xh fta fba flo fne : Nat → Int32} (h : FRY de xm xl xh fta fba flo fne) : FRX de xm xl xh fta fba flo fne := ⟨fun i hi => ⟨(h i hi).1, (h i hi).2.1⟩, fun i hi => (h i (by omega)).2.2⟩
theorem FRX.less {de d : Nat} {xm xl xh fta fba flo fne : Nat → Int32} (h : FRX de xm xl xh fta fba flo fne) (hd : d ≤ de) : FRX d xm xl xh fta fba flo fne := ⟨fun i hi => h.1 i (by omega), fun i hi => h.2 i (by omega)⟩
theorem FRX.y {de : Nat} {xm xl xh fta fba flo fne : Nat → Int32} {x : Int32} (h : FRX de xm xl xh fta fba flo fne) (hd : 1 ≤ de) : FRY de xm xl (upd xh (de - 1) x) fta fba flo (upd fne (de - 1) x) := fun i hi => by
  refine ⟨(h.1 i hi).1, (h.1 i hi).2, ?_⟩
  by_cases e : i = de - 1
  · subst e; rw [pk_us, pk_us]
  · rw [pk_un e, pk_un e]; exact h.2 i (by omega)
theorem FRX.top {de : Nat} {xm xl xh fta fba flo fne : Nat → Int32} {x y : Int32} (h : FRX de xm xl xh fta fba flo fne) (hd : 1 ≤ de) : FRX de xm xl (upd xh (de - 1) x) fta fba flo (upd fne (de - 1) y) := ⟨h.1, fun i hi => by rw [pk_un (by omega), pk_un (by omega)]; exact h.2 i hi⟩
theorem FRX.topl {de : Nat} {xm xl xh fta fba flo fne : Nat → Int32} {x : Int32} (h : FRX de xm xl xh fta fba flo fne) (hd : 1 ≤ de) : FRX de xm xl (upd xh (de - 1) x) fta fba flo fne := ⟨h.1, fun i hi => by rw [pk_un (by omega)]; exact h.2 i hi⟩
theorem FRX.topr {de : Nat} {xm xl xh fta fba flo fne : Nat → Int32} {x : Int32} (h : FRX de xm xl xh fta fba flo fne) (hd : 1 ≤ de) : FRX de xm xl xh fta fba flo (upd fne (de - 1) x) := ⟨h.1, fun i hi => by rw [pk_un (by omega)]; exact h.2 i hi⟩
theorem FRY.push {de b l t : Nat} {xm xl xh fta fba flo fne : Nat → Int32} {ad : Int32} (h : FRY de xm xl xh fta fba flo fne) (ht : ad + 3 = nI t) (hb : b < 1000) (hl : l < 1000) : FRX (de + 1) (upd xm de ad) (upd xl de (nI (b + l))) xh (upd fta de (nI t)) (upd fba de (nI b)) (upd flo de (nI l)) fne := by
  refine ⟨fun i hi => ?_, fun i hi => (h i (by omega)).2.2⟩
  by_cases e : i = de
  · subst e
    rw [pk_us, pk_us, pk_us]
    refine ⟨ht, ?_⟩
    unfold bs
    rw [pk_us, pk_us, nI_clamp (by omega), nI_clamp (by omega)]
  · rw [pk_un e, pk_un e, pk_un e]
    unfold bs
    rw [pk_un e, pk_un e]
    exact ⟨(h i (by omega)).1, (h i (by omega)).2.1⟩
def RR (ce : Nat) (j1 j2 : Nat → Int32) (en rk rn : Int32) : Prop := (ce = 0 ∧ rk = 0 ∧ rn = 0) ∨ (ce = 1 ∧ ¬ en = 0 ∧ j1 0 = rk ∧ j2 0 = tv rk rn)
def OWN (f fkd fit : Nat → Int32) : Prop := ∀ o, o < 32 → ∀ p, p < 8 → (f (29 * o + 5 + 3 * p) = 1 → fkd (o * 8 + p) = f (29 * o + 5 + 3 * p + 1) ∧ fit (o * 8 + p) = tv (f (29 * o + 5 + 3 * p + 1)) (f (29 * o + 5 + 3 * p + 2)) ∧ ¬ f (29 * o + 5 + 3 * p + 1) = -1 ∧ (f (29 * o + 5 + 3 * p + 1) < 2 → f (29 * o + 5 + 3 * p + 2) = 0)) ∧ (¬ f (29 * o + 5 + 3 * p) = 1 → fkd (o * 8 + p) = -1)
theorem OWN.wk {f fkd fit : Nat → Int32} (h : OWN f fkd fit) : OWK f fkd := fun o ho p hp => by
  constructor
  · intro z; exact Classical.byContradiction (fun y => z ((h o ho p hp).2 y))
  · intro z; obtain ⟨e, -, n, -⟩ := (h o ho p hp).1 z; rw [e]; exact n
def UNM (f : Nat → Int32) (fx : Nat) : Prop := ∀ o, fx ≤ o → o < 16 → ∀ p, p < 8 → ¬ f (29 * o + 5 + 3 * p) = 1
def WR (f : Nat → Int32) (fx : Nat) (ffl ffn fkd fit fpa : Nat → Int32) : Prop := CW f fx ffl ffn fpa ∧ OWN f fkd fit ∧ UNM f fx
theorem fnd_in {f : Nat → Int32} {p q : Nat} {l : List Nat} (h : fnd f p l = some q) : q ∈ l ∧ f (29 * q + 5 + 3 * p) = 1 := by
  unfold fnd at h
  exact ⟨List.mem_of_find?_eq_some h, by have := List.find?_some h; simpa using this⟩
theorem ownv_own {f : Nat → Int32} {l : List Nat} {p : Nat} {b : Int32} {q : Nat} (hq : q < 100000) (hl : ∀ x, x ∈ l → x < 32) (h : nI q = ownv f l p b) : q < 32 ∧ f (29 * q + 5 + 3 * p) = 1 := by
  unfold ownv at h
  cases e : fnd f p (if b = -1 then l else bhd b l) with
  | none => rw [e] at h; exact absurd h (ne_m1 (by omega))
  | some x =>
    rw [e] at h
    obtain ⟨h1, h2⟩ := fnd_in e
    have hx : x ∈ l := by
      by_cases z : b = -1
      · rw [if_pos z] at h1; exact h1
      · rw [if_neg z] at h1
        exact (List.dropWhile_sublist _).mem ((List.drop_sublist _ _).mem h1)
    have hx32 := hl x hx
    obtain rfl : q = x := (nI_eq (by omega) (by omega)).mp h
    exact ⟨hx32, h2⟩
abbrev SDM (fb : Nat → Int32) (sz : Nat) (ad : Int32) (n : Nat) : Prop := n < 4 ∧ SD fb sz ad n
theorem ism_sd {fb : Nat → Int32} {sz n : Nat} {ad : Int32} (hB : BY fb) (hs : sz ≤ 300) (hn : n ≤ 1000) : ISM fb sz ad (nI n) ↔ SDM fb sz ad n := by
  unfold ISM SDM SD
  have k : ∀ p, (¬ satv fb sz p = -1 ∧ ¬ 3 < satv fb sz p) ↔ ab fb sz p < 4 := fun p => by
    by_cases h : ab fb sz p < 1000
    · obtain ⟨e, l⟩ := satv_ab hB hs h
      rw [e]
      refine ⟨fun ⟨_, z⟩ => ?_, fun z => ⟨ne_m1 (by omega), fun y => ?_⟩⟩
      · exact Nat.lt_of_not_le (fun y => z (nI_lt (a := 3) y (by omega)))
      · have := (nI_ltI (a := 3) (b := ab fb sz p) (by omega) (by omega)).mp y; omega
    · rw [satv_no hB hs h]
      exact ⟨fun ⟨z, _⟩ => absurd rfl z, fun z => by omega⟩
  constructor
  · rintro ⟨h1, h2, h3, h4, h5, h6, h7⟩
    have n4 : n < 4 := Nat.lt_of_not_le (fun y => h1 (nI_lt (a := 3) y (by omega)))
    have a1 := (k (ad + 1)).mp ⟨h3, h4⟩
    have a2 := (k (ad + 2)).mp ⟨h5, h6⟩
    refine ⟨n4, ?_, a1, a2, ?_⟩
    · by_cases h : ab fb sz ad < 1000
      · obtain ⟨e, l⟩ := satv_ab hB hs h
        rw [e] at h2
        exact (nI_eq (by omega) (by omega)).mp h2
      · rw [satv_no hB hs h] at h2
        exact absurd h2.symm (ne_m1 (by omega))
    · rw [(satv_ab hB hs (by omega : ab fb sz (ad + 2) < 1000)).1] at h7
      have e4 : (4 : Int32) * nI (ab fb sz (ad + 2)) = nI (4 * ab fb sz (ad + 2)) := pk_mul 4 _
      rw [e4] at h7; exact h7
  · rintro ⟨n4, h1, h2, h3, h4⟩
    obtain ⟨b1, b2⟩ := (k (ad + 1)).mpr h2
    obtain ⟨c1, c2⟩ := (k (ad + 2)).mpr h3
    refine ⟨fun y => ?_, ?_, b1, b2, c1, c2, ?_⟩
    · have := (nI_ltI (a := 3) (b := n) (by omega) (by omega)).mp y; omega
    · rw [(satv_ab hB hs (by omega : ab fb sz ad < 1000)).1, h1]
    · rw [(satv_ab hB hs (by omega : ab fb sz (ad + 2) < 1000)).1]
      have e4 : (4 : Int32) * nI (ab fb sz (ad + 2)) = nI (4 * ab fb sz (ad + 2)) := pk_mul 4 _
      rw [e4]; exact h4
theorem satv_nI {fb : Nat → Int32} {sz j : Nat} (hB : BY fb) (hs : sz ≤ 300) (hj : j < sz) : satv fb sz (nI j) = nI (bs fb j) := (satv_in hj hs).symm.trans (bs_nI hB (by omega))
theorem ab_nI {fb : Nat → Int32} {sz j : Nat} (hs : sz ≤ 300) (hj : j < sz) : ab fb sz (nI j) = bs fb j := by unfold ab; rw [← atv_in hj hs]; rfl
theorem VLD.in {fb : Nat → Int32} {sz i : Nat} {p : Int32} (hB : BY fb) (hs : sz ≤ 300) (h : VLD sz fb p) (hi : i < LNN (ab fb sz p)) : ab fb sz (p + nI i) ≤ 255 ∧ satv fb sz (p + nI i) = nI (ab fb sz (p + nI i)) := by
  obtain ⟨h1, h2⟩ := h
  obtain ⟨e, l, e2⟩ := ab_in hB hs (p := p) (by omega)
  generalize p.toNatClampNeg = j at e l e2
  subst e
  rw [nI_add] at h2 ⊢
  have hL : LNN (ab fb sz (nI j)) ≤ 5 := by unfold LNN; (repeat' split) <;> omega
  have h3 := (nI_leI (by omega) (by omega)).mp h2
  rw [ab_nI hs (by omega), satv_nI hB hs (by omega)]
  exact ⟨bs_le hB (by omega), rfl⟩
theorem len_ok {f : Nat → Int32} {b : Nat} (h : ∀ i, i < 35 → f i = LEN35.getD i 0) (hb : b < 35) : f (nI b).toNatClampNeg = nI (LNN b) := by
  rw [nI_clamp (by omega), h b hb]
  have : ∀ b, b < 35 → LEN35.getD b 0 = nI (LNN b) := by decide +kernel
  exact this b hb
theorem add12 {x : Int32} : x + 2 = x + 1 + 1 := by rw [Int32.add_assoc]; rfl
def GLI (fb fbe : Nat → Int32) (d : Nat) : Option Nat → Int32
  | none => -1
  | some h => fbe d + nI (bs fb (h + 3))
abbrev OTP (fba flo fk fn fw : Nat → Int32) (he ii : Nat) : Prop := bs fba ii + bs flo ii + 1 ≤ he ∧ OBK fk fn fw (he - 1)
theorem SD.sat {fb : Nat → Int32} {sz n j : Nat} (hB : BY fb) (hs : sz ≤ 300) (hn : n ≤ 3) (h : SD fb sz (nI j) n) (hj : j < 300) : satv fb sz (nI j + 1) = nI (bs fb (j + 1)) ∧ nI j + 3 + 4 * satv fb sz (nI j + 2) = nI (j + 3 + 4 * bs fb (j + 2)) ∧ nI j + 3 = nI (j + 3) := by
  obtain ⟨k, e1, -, h2, h3, h4, h5⟩ := h.ix hB hs hn
  obtain rfl : j = k := (nI_eq (by omega) (by omega)).mp e1
  have f1 : nI j + 1 = nI (j + 1) := nI_add j 1
  have f2 : nI j + 2 = nI (j + 2) := nI_add j 2
  have f3 : nI j + 3 = nI (j + 3) := nI_add j 3
  rw [f1, f2, f3, satv_nI hB hs (by omega), satv_nI hB hs (by omega)]
  have e4 : (4 : Int32) * nI (bs fb (j + 2)) = nI (4 * bs fb (j + 2)) := pk_mul 4 _
  exact ⟨rfl, by rw [e4, nI_add], rfl⟩
theorem nils_s {f : Nat → Int32} {b lo k ct : Nat} (h1 : 1 ≤ k) (h2 : k ≤ lo) (hc : ct = b + (lo - k)) : upd (NILS f b (lo - k)) ct 0 = NILS f b (lo - (k - 1)) := by
  rw [hc, show lo - (k - 1) = lo - k + 1 from by omega]; rfl
def CALLG (ad : Int32) (n0 gg : Nat) (ob ow : Int32) (sz : Nat) (fb : Nat → Int32) (he de po sd : Nat) (en rk rn : Int32) (fk fn fbe fta fba flo fse ffo fpl fne fsk fsn fw fs : Nat → Int32) : Int32 × RS := if n0 < 4 then CALLF ad n0 gg ob ow sz fb he de po sd en rk rn fk fn fbe fta fba flo fse ffo fpl fne fsk fsn fw fs else (0, (he, de, po, sd, en, rk, rn, fk, fn, fbe, fta, fba, flo, fse, ffo, fpl, fne, fsk, fsn, fw, fs))
def ASKG (ob ow : Int32) (pp n0 gg : Nat) (sz : Nat) (fb : Nat → Int32) (he de po sd : Nat) (en rk rn : Int32) (fk fn fbe fta fba flo fse ffo fpl fne fsk fsn fw fs : Nat → Int32) : Int32 × RS := if n0 < 4 then ASKF ob ow pp n0 gg sz fb he de po sd en rk rn fk fn fbe fta fba flo fse ffo fpl fne fsk fsn fw fs else (0, (he, de, po, sd, en, rk, rn, fk, fn, fbe, fta, fba, flo, fse, ffo, fpl, fne, fsk, fsn, fw, fs))
