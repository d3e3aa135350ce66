/-! what the public calls do -/
abbrev OUTS (v lo hi : Int32) : Prop := v < lo ∨ hi < v
def BYT (w n : Int32) : Int32 := (w >>> (n &&& 31)) &&& 255
abbrev FITP (fw : Nat → Int32) (pv kv vv : Int32) : Prop := ¬ (pv < 0 ∨ 7 < pv) ∧ ¬ (kv < -1 ∨ 4 < kv) ∧ (kv = 3 → TH fw vv) ∧ (kv = 4 → ¬ (vv < 0 ∨ 299 < vv))
def PCD (fw : Nat → Int32) (en aa pv kv vv : Int32) : Int32 := if TH fw aa then (if FITP fw pv kv vv then (if en = 0 then 3 else 0) else 2) else 1
def PRW (fw : Nat → Int32) (o p : Nat) (k v : Int32) : Nat → Int32 := if k = -1 then upd fw (29 * o + 5 + 3 * p) 0 else GIVE fw o p k v
abbrev ISP (fw : Nat → Int32) (x : Int32) : Prop := x = -1 ∨ (¬ (x < 0 ∨ 15 < x) ∧ TH fw x)
def MNY (a b c : Int32) : Nat := if a = -1 then 0 else if b = -1 then 1 else if c = -1 then 2 else 3
abbrev FITO (fw : Nat → Int32) (a b c : Int32) : Prop := ISP fw a ∧ (MNY a b c < 1 ∨ ISP fw b) ∧ (MNY a b c < 2 ∨ ISP fw c)
def OCD (fw : Nat → Int32) (fx : Nat) (en a b c : Int32) : Int32 := if FITO fw a b c then (if en = 0 ∨ fx = 16 then 2 else 0) else 1
def OBW (fw : Nat → Int32) (fx : Nat) (a b c : Int32) : Nat → Int32 := upd (upd (upd (upd (EMP fw fx) (29 * fx + 1) (nI (MNY a b c))) (29 * fx + 2) a) (29 * fx + 3) b) (29 * fx + 4) c
abbrev OWB (fw : Nat → Int32) (o p : Nat) : Int32 := ownv fw (LNE fw o).reverse p (-1)
abbrev FITB (fw fb : Nat → Int32) (sz o p : Nat) : Prop := ¬ OWB fw o p = -1 ∧ fw (29 * (OWB fw o p).toNatClampNeg + 5 + 3 * p + 1) = 4 ∧ SD fb sz (fw (29 * (OWB fw o p).toNatClampNeg + 5 + 3 * p + 2)) 0
def BCD (fw fb : Nat → Int32) (sz : Nat) (en aa pv : Int32) : Int32 := if TH fw aa then (if pv < 0 ∨ 7 < pv then 2 else if FITB fw fb sz aa.toNatClampNeg pv.toNatClampNeg then (if en = 0 then 3 else 0) else 2) else 1
def BADR (fw : Nat → Int32) (aa pv : Int32) : Int32 := fw (29 * (OWB fw aa.toNatClampNeg pv.toNatClampNeg).toNatClampNeg + 5 + 3 * pv.toNatClampNeg + 2)
def BEGF (aa pv : Int32) (sz : Nat) (fb : Nat → Int32) (he de po sd : Nat) (en rk rn : Int32) (fk fn fbe fta fba flo fse ffo fpl fne fsk fsn fw fs : Nat → Int32) : Int32 × RS := if BCD fw fb sz en aa pv = 0 then CALLF (BADR fw aa pv) 0 0 aa (OWB fw aa.toNatClampNeg pv.toNatClampNeg) sz fb 0 0 0 0 0 0 0 fk fn fbe fta fba flo fse ffo fpl fne fsk fsn fw fs else (BCD fw fb sz en aa pv, (he, de, po, sd, en, rk, rn, fk, fn, fbe, fta, fba, flo, fse, ffo, fpl, fne, fsk, fsn, fw, fs))
theorem byt_u (n : Nat) (hn : n ≤ 24) (w : Int32) : (w.toUInt32 >>> ((nI n).toUInt32 &&& Int32.toUInt32 31)).toInt32 &&& 255 = BYT w (nI n) := by
  unfold BYT
  apply b_ext
  intro i hi
  rw [b_and, b_and, b_255]
  by_cases h8 : i < 8
  · rw [b_ushr n (by omega) w i, b_sshr n (by omega) w hi, if_pos (by omega)]
  · rw [decide_eq_false h8, Bool.and_false, Bool.and_false]
theorem rr_over {ce : Nat} {j1 j2 : Nat → Int32} {en e2 rk rn : Int32} (h : RR ce j1 j2 en rk rn) (he : ¬ e2 = 0) : RR ce j1 j2 e2 rk rn := by
  rcases h with h | h
  · exact Or.inl h
  · exact Or.inr ⟨h.1, he, h.2.2⟩
theorem mn_rn {z fu : Int32} {k : Nat} (hz : z = if (3000 : Int32) < fu then 3000 else fu) (hk : k ≤ 3000) (h : ¬ z ≤ nI k) : k < RN fu := by
  have h3 := mn_lt hz hk h
  refine rn_lt (by omega) (fun y => h ?_)
  rw [hz]
  by_cases h2 : (3000 : Int32) < fu
  · exfalso
    have h4 : (3000 : Int32) < nI k := by
      rw [Int32.lt_iff_toInt_lt] at h2 ⊢
      rw [Int32.le_iff_toInt_le] at y
      omega
    have := (nI_ltI (a := 3000) (b := k) (by omega) (by omega)).mp h4
    omega
  · rw [if_neg h2]; exact y
theorem mn_ge {z fu : Int32} {k : Nat} (hz : z = if (3000 : Int32) < fu then 3000 else fu) (hk : k ≤ 3000) (h : z ≤ nI k) : RN fu ≤ k := by
  by_cases h2 : (3000 : Int32) < fu
  · rw [hz, if_pos h2] at h
    have := (nI_leI (a := 3000) (b := k) (by omega) (by omega)).mp h
    have := rn_b (fu := fu)
    omega
  · rw [hz, if_neg h2] at h
    exact rn_le (by omega) h
