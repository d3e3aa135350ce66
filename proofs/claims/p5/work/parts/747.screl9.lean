/-! collecting: what can be come to -/
def CLS (fw : Nat → Int32) (S : Nat → Prop) : Prop := ∀ o, o < 32 → S o → (∀ k, k < pnN fw o → S (pqN fw o k)) ∧ ∀ p, p < 8 → fw (29 * o + 5 + 3 * p) = 1 → fw (29 * o + 5 + 3 * p + 1) = 3 → ∀ q, q < 32 → fw (29 * o + 5 + 3 * p + 2) = nI q → fw (29 * q) = 1 → S q
def RTS (fw fk fn fse ffo : Nat → Int32) (he de : Nat) (rk rn : Int32) (q : Nat) : Prop := fw (29 * q) = 1 ∧ (q < 16 ∨ (rk = 3 ∧ rn = nI q) ∨ (∃ k, k < he ∧ fk k = 3 ∧ fn k = nI q) ∨ ∃ d, d < de ∧ (fse d = nI q ∨ ffo d = nI q))
def RC (fw fk fn fse ffo : Nat → Int32) (he de : Nat) (rk rn : Int32) (q : Nat) : Prop := ∀ S : Nat → Prop, (∀ x, x < 32 → RTS fw fk fn fse ffo he de rk rn x → S x) → CLS fw S → S q
theorem RC.root {fw fk fn fse ffo : Nat → Int32} {he de q : Nat} {rk rn : Int32} (hq : q < 32) (h : RTS fw fk fn fse ffo he de rk rn q) : RC fw fk fn fse ffo he de rk rn q := fun S h1 _ => h1 q hq h
theorem RC.cls {fw fk fn fse ffo : Nat → Int32} {he de : Nat} {rk rn : Int32} : CLS fw (RC fw fk fn fse ffo he de rk rn) := fun o ho h => ⟨fun k hk S h1 h2 => (h2 o ho (h S h1 h2)).1 k hk, fun p hp a b q hq c d S h1 h2 => (h2 o ho (h S h1 h2)).2 p hp a b q hq c d⟩
def MSB (mk : Int32) (S : Nat → Prop) : Prop := ∀ q, q < 32 → bt mk q = true → S q
def BSE (mk : Int32) (S : Nat → Prop) : Prop := ∀ q, q < 32 → (bt mk q = true ↔ S q)
theorem BSE.uniq {a b : Int32} {S : Nat → Prop} (h1 : BSE a S) (h2 : BSE b S) : a = b := b_ext (fun i hi => by
  cases ha : bt a i <;> cases hb : bt b i
  · rfl
  · exact absurd ((h1 i hi).mpr ((h2 i hi).mp hb)) (by rw [ha]; decide)
  · exact absurd ((h2 i hi).mpr ((h1 i hi).mp ha)) (by rw [hb]; decide)
  · rfl)
theorem BSE.of {fw fk fn fse ffo : Nat → Int32} {he de : Nat} {rk rn mk : Int32} (h1 : MSB mk (RC fw fk fn fse ffo he de rk rn)) (h2 : ∀ x, x < 32 → RTS fw fk fn fse ffo he de rk rn x → bt mk x = true) (h3 : CLS fw (fun q => q < 32 → bt mk q = true)) : BSE mk (RC fw fk fn fse ffo he de rk rn) := fun q hq => ⟨h1 q hq, fun h => h (fun q => q < 32 → bt mk q = true) (fun x hx hr _ => h2 x hx hr) h3 hq⟩
/-- what mark does, and no more -/
def MDX (fw : Nat → Int32) (mk what ov r : Int32) : Prop := MD fw mk what ov r ∧ ∀ S : Nat → Prop, MSB mk S → (what = 3 → ∀ q, q < 32 → ov = nI q → fw (29 * q) = 1 → S q) → MSB r S
theorem MDX.same {fw : Nat → Int32} {mk what ov : Int32} (h : what = 3 → ∀ q, q < 32 → ov = nI q → fw (29 * q) = 1 → False) : MDX fw mk what ov mk := ⟨MD.same h, fun _ hm _ => hm⟩
theorem MDX.more {fw : Nat → Int32} {mk what : Int32} {j : Nat} (hj : j < 32) (ht : fw (29 * j) = 1) (h3 : what = 3) : MDX fw mk what (nI j) (mk ||| 1 <<< (nI j &&& 31)) :=
  ⟨MD.more hj ht, fun S hm hs q hq hb => by
    rw [b_add hj hq, Bool.or_eq_true] at hb
    rcases hb with z | z
    · exact hm q hq z
    · rw [of_decide_eq_true z]; exact hs h3 j hj rfl ht⟩
def CVM (fw : Nat → Int32) (m : Nat) (a b : Int32) : Prop := ∀ o, o < m → bt a o = true → ∀ p, p < 8 → fw (29 * o + 5 + 3 * p) = 1 → fw (29 * o + 5 + 3 * p + 1) = 3 → ∀ q, q < 32 → fw (29 * o + 5 + 3 * p + 2) = nI q → fw (29 * q) = 1 → bt b q = true
def CVP (fw : Nat → Int32) (o n : Nat) (b : Int32) : Prop := ∀ p, p < n → fw (29 * o + 5 + 3 * p) = 1 → fw (29 * o + 5 + 3 * p + 1) = 3 → ∀ q, q < 32 → fw (29 * o + 5 + 3 * p + 2) = nI q → fw (29 * q) = 1 → bt b q = true
theorem CVM.up {fw : Nat → Int32} {m : Nat} {a b c : Int32} (h : CVM fw m a b) (hs : SUP b c) : CVM fw m a c := fun o ho hb p hp h1 h2 q hq h3 h4 => hs q hq (h o ho hb p hp h1 h2 q hq h3 h4)
theorem CVP.up {fw : Nat → Int32} {o n : Nat} {b c : Int32} (h : CVP fw o n b) (hs : SUP b c) : CVP fw o n c := fun p hp h1 h2 q hq h3 h4 => hs q hq (h p hp h1 h2 q hq h3 h4)
theorem CVM.step {fw : Nat → Int32} {m : Nat} {a b : Int32} (h : CVM fw m a b) (h1 : bt a m = true → CVP fw m 8 b) : CVM fw (m + 1) a b := fun o ho hb => by
  by_cases e : o = m
  · subst e; exact fun p hp => h1 hb p hp
  · exact h o (by omega) hb
theorem CVP.step {fw : Nat → Int32} {o n : Nat} {b c : Int32} (h : CVP fw o n b) (hs : SUP b c) (h1 : fw (29 * o + 5 + 3 * n) = 1 → fw (29 * o + 5 + 3 * n + 1) = 3 → ∀ q, q < 32 → fw (29 * o + 5 + 3 * n + 2) = nI q → fw (29 * q) = 1 → bt c q = true) : CVP fw o (n + 1) c := fun p hp => by
  by_cases e : p = n
  · subst e; exact h1
  · exact h.up hs p (by omega)
def SSP (fw : Nat → Int32) (mk al : Int32) : Prop := ∀ S : Nat → Prop, CLS fw S → MSB mk S → MSB al S
theorem SSP.rf {fw : Nat → Int32} {mk : Int32} : SSP fw mk mk := fun _ _ h => h
/-- closed marks are a closed set -/
theorem cls_of {fw : Nat → Int32} {rk : Nat → Nat} {mk : Int32} (hw : WP fw rk) (hm : MK fw mk) (hc : CL fw mk mk) (hv : CVM fw 32 mk mk) : CLS fw (fun q => q < 32 → bt mk q = true) := fun o ho h => by
  have hb := h ho
  obtain ⟨hn, e, hp⟩ := hw.par ho (hm o ho hb)
  exact ⟨fun k hk hq => by obtain ⟨q1, e2, -, -⟩ := hp k hk; exact hc o ho hb _ hn e k hk _ q1 e2, fun p hp8 h1 h2 q hq h3 h4 _ => hv o ho hb p hp8 h1 h2 q hq h3 h4⟩
def STK (fw fk fn : Nat → Int32) (k : Nat) (mk : Int32) : Prop := ∀ i, i < k → fk i = 3 → ∀ q, q < 32 → fn i = nI q → fw (29 * q) = 1 → bt mk q = true
def FRK (fw fse ffo : Nat → Int32) (k : Nat) (mk : Int32) : Prop := ∀ i, i < k → ∀ q, q < 32 → (fse i = nI q ∨ ffo i = nI q) → fw (29 * q) = 1 → bt mk q = true
def RSK (fw : Nat → Int32) (rk rn : Int32) (mk : Int32) : Prop := rk = 3 → ∀ q, q < 32 → rn = nI q → fw (29 * q) = 1 → bt mk q = true
theorem STK.up {fw fk fn : Nat → Int32} {k : Nat} {a b : Int32} (h : STK fw fk fn k a) (hs : SUP a b) : STK fw fk fn k b := fun i hi h1 q hq h2 h3 => hs q hq (h i hi h1 q hq h2 h3)
theorem FRK.up {fw fse ffo : Nat → Int32} {k : Nat} {a b : Int32} (h : FRK fw fse ffo k a) (hs : SUP a b) : FRK fw fse ffo k b := fun i hi q hq h2 h3 => hs q hq (h i hi q hq h2 h3)
theorem RSK.up {fw : Nat → Int32} {rk rn a b : Int32} (h : RSK fw rk rn a) (hs : SUP a b) : RSK fw rk rn b := fun h1 q hq h2 h3 => hs q hq (h h1 q hq h2 h3)
theorem STK.step {fw fk fn : Nat → Int32} {k : Nat} {a b : Int32} (h : STK fw fk fn k a) (hs : SUP a b) (h1 : fk k = 3 → ∀ q, q < 32 → fn k = nI q → fw (29 * q) = 1 → bt b q = true) : STK fw fk fn (k + 1) b := fun i hi => by
  by_cases e : i = k
  · subst e; exact h1
  · exact h.up hs i (by omega)
theorem FRK.step {fw fse ffo : Nat → Int32} {k : Nat} {a b : Int32} (h : FRK fw fse ffo k a) (hs : SUP a b) (h1 : ∀ q, q < 32 → (fse k = nI q ∨ ffo k = nI q) → fw (29 * q) = 1 → bt b q = true) : FRK fw fse ffo (k + 1) b := fun i hi => by
  by_cases e : i = k
  · subst e; exact h1
  · exact h.up hs i (by omega)
theorem rts_in {fw fk fn fse ffo : Nat → Int32} {he de x : Nat} {rk rn mk : Int32} (hx : x < 32) (h : RTS fw fk fn fse ffo he de rk rn x) (h1 : FX fw 16 mk) (h2 : RSK fw rk rn mk) (h3 : STK fw fk fn he mk) (h4 : FRK fw fse ffo de mk) : bt mk x = true := by
  obtain ⟨t, z | ⟨z1, z2⟩ | ⟨k, z1, z2, z3⟩ | ⟨d, z1, z2⟩⟩ := h
  · exact h1 x z t
  · exact h2 z1 x hx z2 t
  · exact h3 k z1 z2 x hx z3 t
  · exact h4 d z1 x hx z2 t
/-! what goes -/
def SWQ (fw : Nat → Int32) (mk : Int32) : Nat → Nat → Int32
  | 0 => fw
  | n + 1 => if SWQ fw mk n (29 * (16 + n)) = 1 ∧ bt mk (16 + n) = false then upd (SWQ fw mk n) (29 * (16 + n)) 0 else SWQ fw mk n
def GNQ (fw : Nat → Int32) (mk : Int32) : Nat → Nat
  | 0 => 0
  | n + 1 => if SWQ fw mk n (29 * (16 + n)) = 1 ∧ bt mk (16 + n) = false then GNQ fw mk n + 1 else GNQ fw mk n
def SPQ (fpa : Nat → Int32) (mk : Int32) : Nat → Nat → Int32
  | 0 => fpa
  | n + 1 => if ¬ SPQ fpa mk n n = -1 ∧ bt mk (16 + n) = false then upd (SPQ fpa mk n) n (-1) else SPQ fpa mk n
def GPQ (fpa : Nat → Int32) (mk : Int32) : Nat → Nat
  | 0 => 0
  | n + 1 => if ¬ SPQ fpa mk n n = -1 ∧ bt mk (16 + n) = false then GPQ fpa mk n + 1 else GPQ fpa mk n
theorem SWQ_far {fw : Nat → Int32} {mk : Int32} {j : Nat} : ∀ n, (∀ i, i < n → j ≠ 29 * (16 + i)) → SWQ fw mk n j = fw j := by
  intro n
  induction n with
  | zero => intro _; rfl
  | succ n ih =>
    intro h
    have h0 := ih (fun i hi => h i (by omega))
    show (if _ then upd (SWQ fw mk n) (29 * (16 + n)) 0 else SWQ fw mk n) j = fw j
    split
    · rw [pk_un (h n (by omega))]; exact h0
    · exact h0
theorem SWQ_at {fw : Nat → Int32} {mk : Int32} : ∀ n i, i < n → SWQ fw mk n (29 * (16 + i)) = if fw (29 * (16 + i)) = 1 ∧ bt mk (16 + i) = false then 0 else fw (29 * (16 + i)) := by
  intro n
  induction n with
  | zero => intro i hi; exact absurd hi (Nat.not_lt_zero i)
  | succ n ih =>
    intro i hi
    have hf : SWQ fw mk n (29 * (16 + n)) = fw (29 * (16 + n)) := SWQ_far n (fun a ha => by omega)
    show (if SWQ fw mk n (29 * (16 + n)) = 1 ∧ bt mk (16 + n) = false then upd (SWQ fw mk n) (29 * (16 + n)) 0 else SWQ fw mk n) (29 * (16 + i)) = _
    by_cases e : i = n
    · subst e
      rw [hf]
      split
      · rw [pk_us]
      · exact hf
    · have h1 := ih i (by omega)
      split
      · rw [pk_un (by omega)]; exact h1
      · exact h1
theorem SPQ_far {fpa : Nat → Int32} {mk : Int32} {j : Nat} : ∀ n, n ≤ j → SPQ fpa mk n j = fpa j := by
  intro n
  induction n with
  | zero => intro _; rfl
  | succ n ih =>
    intro h
    have h0 := ih (by omega)
    show (if _ then upd (SPQ fpa mk n) n (-1) else SPQ fpa mk n) j = fpa j
    split
    · rw [pk_un (by omega)]; exact h0
    · exact h0
theorem SPQ_at {fpa : Nat → Int32} {mk : Int32} : ∀ n i, i < n → SPQ fpa mk n i = if ¬ fpa i = -1 ∧ bt mk (16 + i) = false then -1 else fpa i := by
  intro n
  induction n with
  | zero => intro i hi; exact absurd hi (Nat.not_lt_zero i)
  | succ n ih =>
    intro i hi
    have hf : SPQ fpa mk n n = fpa n := SPQ_far n (Nat.le_refl _)
    show (if ¬ SPQ fpa mk n n = -1 ∧ bt mk (16 + n) = false then upd (SPQ fpa mk n) n (-1) else SPQ fpa mk n) i = _
    by_cases e : i = n
    · subst e
      rw [hf]
      split
      · rw [pk_us]
      · exact hf
    · have h1 := ih i (by omega)
      split
      · rw [pk_un (by omega)]; exact h1
      · exact h1
theorem gn_eq {fw fpa : Nat → Int32} {mk : Int32} (h : ∀ o, 16 ≤ o → o < 32 → (fw (29 * o) = 1 ↔ ¬ fpa (o - 16) = -1)) : ∀ n, n ≤ 16 → GPQ fpa mk n = GNQ fw mk n := by
  intro n
  induction n with
  | zero => intro _; rfl
  | succ n ih =>
    intro hn
    have hf : SPQ fpa mk n n = fpa n := SPQ_far n (Nat.le_refl _)
    have hg : SWQ fw mk n (29 * (16 + n)) = fw (29 * (16 + n)) := SWQ_far n (fun a ha => by omega)
    have h1 := h (16 + n) (by omega) (by omega)
    rw [show 16 + n - 16 = n from by omega] at h1
    show (if ¬ SPQ fpa mk n n = -1 ∧ bt mk (16 + n) = false then GPQ fpa mk n + 1 else GPQ fpa mk n) = (if SWQ fw mk n (29 * (16 + n)) = 1 ∧ bt mk (16 + n) = false then GNQ fw mk n + 1 else GNQ fw mk n)
    rw [hf, hg, ih (by omega)]
    by_cases hb : bt mk (16 + n) = false
    · by_cases hp : fw (29 * (16 + n)) = 1
      · rw [if_pos ⟨h1.mp hp, hb⟩, if_pos ⟨hp, hb⟩]
      · rw [if_neg (fun z => hp (h1.mpr z.1)), if_neg (fun z => hp z.1)]
    · rw [if_neg (fun z => hb z.2), if_neg (fun z => hb z.2)]
theorem sw_rm {fw : Nat → Int32} {mk : Int32} : ∀ n, n ≤ 16 → RM fw (SWQ fw mk n) mk (16 + n) := by
  intro n
  induction n with
  | zero => intro _; exact RM.init
  | succ n ih =>
    intro hn
    have h0 := ih (by omega)
    show RM fw (if SWQ fw mk n (29 * (16 + n)) = 1 ∧ bt mk (16 + n) = false then upd (SWQ fw mk n) (29 * (16 + n)) 0 else SWQ fw mk n) mk (16 + n + 1)
    by_cases hc : SWQ fw mk n (29 * (16 + n)) = 1 ∧ bt mk (16 + n) = false
    · rw [if_pos hc]; exact h0.drop (by omega) (by omega) hc.2
    · rw [if_neg hc]
      refine h0.keep (fun z => ?_)
      cases hb : bt mk (16 + n)
      · exact absurd ⟨z, hb⟩ hc
      · rfl
theorem SWQ_hi {fw : Nat → Int32} {mk : Int32} : ∀ j, 928 ≤ j → SWQ fw mk 16 j = fw j := fun j hj => SWQ_far 16 (fun i hi => by omega)
theorem WR.sweep {f ffl ffn fkd fit fpa : Nat → Int32} {fx : Nat} {mk : Int32} (h : WR f fx ffl ffn fkd fit fpa) (hF : FX f 16 mk) (hc : CL f mk mk) : WR (SWQ f mk 16) fx ffl ffn fkd fit (SPQ fpa mk 16) := by
  obtain ⟨hcw, how, hun⟩ := h
  obtain ⟨⟨rk, hwp⟩, hfx, hlo, hnot, hmd⟩ := hcw
  have hO : WO f fx := ⟨⟨rk, hwp⟩, fun a h1 h2 => hnot a h1 h2⟩
  obtain ⟨⟨⟨rg, hg⟩, hng⟩, hfar⟩ := (sw_rm (fw := f) (mk := mk) 16 (by decide)).done hO hF hc
  have hlow : ∀ a, a < 16 → SWQ f mk 16 (29 * a) = f (29 * a) := fun a ha => SWQ_far 16 (fun i hi => by omega)
  have hin : ∀ a i, a < 32 → 1 ≤ i → i < 29 → SWQ f mk 16 (29 * a + i) = f (29 * a + i) := fun a i ha h1 h2 => SWQ_far 16 (fun k hk => by omega)
  have hmade : ∀ a, 16 ≤ a → a < 32 → SWQ f mk 16 (29 * a) = if f (29 * a) = 1 ∧ bt mk a = false then 0 else f (29 * a) := fun a h1 h2 => by
    have := SWQ_at (fw := f) (mk := mk) 16 (a - 16) (by omega)
    rw [show 16 + (a - 16) = a from by omega] at this
    exact this
  have hkeep : ∀ a, a < 32 → SWQ f mk 16 (29 * a) = 1 → f (29 * a) = 1 := fun a ha z => by
    rcases Nat.lt_or_ge a 16 with y | y
    · rw [hlow a y] at z; exact z
    · rw [hmade a y ha] at z
      split at z
      · exact absurd z (by decide)
      · exact z
  have hs : SPT (SWQ f mk 16) f := fun a ha h1 i hi => by
    by_cases e : i = 0
    · subst e; exact (hkeep a ha h1).trans h1.symm
    · exact (hin a i ha (by omega) (by omega)).symm
  refine ⟨⟨⟨rg, hg⟩, hfx, fun i hi => ?_, fun a h1 h2 => ?_, fun a h1 h2 => ?_⟩, ?_, ?_⟩
  · obtain ⟨a1, m, a2, a3, a4⟩ := hlo i hi
    have g1 : SWQ f mk 16 (29 * i) = 1 := by rw [hlow i (by omega)]; exact a1
    exact ⟨g1, m, a2, a3, by rw [← LNE_spt hg hs (by omega) g1]; exact a4⟩
  · rw [hlow a h2]; exact hnot a h1 h2
  · obtain ⟨b1, b2, b3⟩ := hmd a h1 h2
    have hp := SPQ_at (fpa := fpa) (mk := mk) 16 (a - 16) (by omega)
    rw [show 16 + (a - 16) = a from by omega] at hp
    have hm := hmade a h1 h2
    by_cases hz : f (29 * a) = 1 ∧ bt mk a = false
    · rw [if_pos ⟨b2.mp hz.1, hz.2⟩] at hp
      rw [if_pos hz] at hm
      rw [hp, hm]
      exact ⟨Or.inl rfl, ⟨fun z => absurd z (by decide), fun z => absurd rfl z⟩, fun z => absurd z (by decide)⟩
    · rw [if_neg (fun z => hz ⟨b2.mpr z.1, z.2⟩)] at hp
      rw [if_neg hz] at hm
      rw [hp, hm]
      refine ⟨b1, b2, fun z => ?_⟩
      have g1 : SWQ f mk 16 (29 * a) = 1 := hm.trans z
      rw [← hs.pn h2 g1, ← hs.pq h2 g1 (by decide)]
      exact b3 z
  · exact how.congr (fun o ho i h1 h2 => hin o i ho (by omega) h2)
  · exact hun.congr (fun o ho i h1 h2 => hin o i ho (by omega) h2)
