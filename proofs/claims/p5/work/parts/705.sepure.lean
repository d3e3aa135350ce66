theorem bI_t {c : Prop} [Decidable c] (h : ¬ bI c = 0) : c := Classical.byContradiction (fun z => h (if_neg z))
theorem bI_f {c : Prop} [Decidable c] (h : bI c = 0) : ¬ c := fun z => absurd ((if_pos z : bI c = 1).symm.trans h) (by decide)
theorem bI_z {c : Prop} [Decidable c] : bI c = 0 ∨ bI c = 1 := by by_cases h : c; exact Or.inr (if_pos h); exact Or.inl (if_neg h)
theorem bI_p {c : Prop} [Decidable c] (h : c) : bI c = 1 := if_pos h
theorem bI_n {c : Prop} [Decidable c] (h : ¬ c) : bI c = 0 := if_neg h
theorem nrm_t {k v : Int32} (h : 2 ≤ k) : v = nrm k v := (if_neg (Int32.not_lt.mpr h)).symm
theorem nrm_f {k v : Int32} (h : ¬ 2 ≤ k) : 0 = nrm k v := (if_pos (Int32.not_le.mp h)).symm
theorem b01 {x : Int32} (h : x = 0 ∨ x = 1) (h0 : ¬ x = 0) : 1 = x := by rcases h with h | h; exact absurd h h0; exact h.symm
theorem bs_nI {fb : Nat → Int32} {j : Nat} (hB : BY fb) (hj : j < 300) : fb j = nI (bs fb j) := by
  obtain ⟨b, hb, e⟩ := hB j hj
  unfold bs; rw [e, nI_clamp (by omega)]
theorem bs_le {fb : Nat → Int32} {j : Nat} (hB : BY fb) (hj : j < 300) : bs fb j ≤ 255 := by
  obtain ⟨b, hb, e⟩ := hB j hj
  unfold bs; rw [e, nI_clamp (by omega)]; exact hb
theorem bs_of {f : Nat → Int32} {d b : Nat} (h : f d = nI b) (hb : b < 100000) : bs f d = b := by unfold bs; rw [h, nI_clamp (by omega)]
theorem atv_nI {fb : Nat → Int32} {sz : Nat} {p : Int32} (hB : BY fb) (hs : sz ≤ 300) : atv fb sz p = nI (ab fb sz p) := by
  unfold ab atv
  by_cases hc : ¬ p < 0 ∧ p.toNatClampNeg < sz
  · rw [if_pos hc]; exact bs_nI hB (by omega)
  · rw [if_neg hc]; rfl
theorem ab_le {fb : Nat → Int32} {sz : Nat} {p : Int32} (hB : BY fb) (hs : sz ≤ 300) : ab fb sz p ≤ 1000 := by
  unfold ab atv
  by_cases hc : ¬ p < 0 ∧ p.toNatClampNeg < sz
  · rw [if_pos hc]; have := bs_le hB (j := p.toNatClampNeg) (by omega); unfold bs at this; omega
  · rw [if_neg hc]; decide
theorem ab_in {fb : Nat → Int32} {sz : Nat} {p : Int32} (hB : BY fb) (hs : sz ≤ 300) (h : ab fb sz p < 1000) : p = nI p.toNatClampNeg ∧ p.toNatClampNeg < sz ∧ ab fb sz p = bs fb p.toNatClampNeg := by
  unfold ab atv at h ⊢
  by_cases hc : ¬ p < 0 ∧ p.toNatClampNeg < sz
  · rw [if_pos hc]
    obtain ⟨j, hj, rfl⟩ := nI_of hc.1
    rw [nI_clamp hj] at hc ⊢
    exact ⟨rfl, hc.2, rfl⟩
  · rw [if_neg hc] at h; exact absurd h (by decide)
theorem TH.ix {fw : Nat → Int32} {v : Int32} (h : TH fw v) : v = nI v.toNatClampNeg ∧ v.toNatClampNeg < 32 ∧ fw (29 * v.toNatClampNeg) = 1 := by
  obtain ⟨h1, h2, h3⟩ := h
  obtain ⟨j, hj, rfl⟩ := ix31 (x := v) (fun z => by rcases z with z | z; exact h1 z; exact h2 z)
  rw [nI_clamp (by omega)] at h3 ⊢
  exact ⟨rfl, hj, h3⟩
theorem TH.of {fw : Nat → Int32} {j : Nat} (hj : j < 32) (h : fw (29 * j) = 1) : TH fw (nI j) := by
  have := ix31n hj
  exact ⟨fun z => this (Or.inl z), fun z => this (Or.inr z), by rw [nI_clamp (by omega)]; exact h⟩
theorem TH.nat {fw : Nat → Int32} {j : Nat} (hj : j < 100000) (h : TH fw (nI j)) : j < 32 ∧ fw (29 * j) = 1 := by
  have := h.ix
  rw [nI_clamp (by omega)] at this
  exact this.2
theorem FR.topE {fba flo fta fbe : Nat → Int32} {de he sz : Nat} (h : FR fba flo fta fbe de he sz) (hd : 1 ≤ de) (hh : he ≤ 40) : fba (de - 1) = nI (bs fba (de - 1)) ∧ flo (de - 1) = nI (bs flo (de - 1)) ∧ bs fba (de - 1) + bs flo (de - 1) ≤ he ∧ ∀ he2, bs fba (de - 1) + bs flo (de - 1) ≤ he2 → FR fba flo fta fbe de he2 sz := by
  obtain ⟨b, lo, e1, e2, h1, h2⟩ := h.top hd
  rw [bs_of e1 (by omega), bs_of e2 (by omega)]
  exact ⟨e1, e2, h1, h2⟩
theorem FR.cutE {fba flo fta fbe : Nat → Int32} {de he sz d : Nat} (h : FR fba flo fta fbe de he sz) (hd : d < de) (hh : he ≤ 40) (hs : sz ≤ 300) : fba d = nI (bs fba d) ∧ flo d = nI (bs flo d) ∧ fta d = nI (bs fta d) ∧ (∃ q, fbe d = nI (bs fta d + 4 * q) ∧ bs fta d + 4 * q ≤ sz ∧ bs fbe d = bs fta d + 4 * q) ∧ bs fba d + bs flo d ≤ he ∧ (d + 1 < de → bs fba d + bs flo d ≤ bs fba (de - 1)) ∧ (∀ he2, bs fba d + bs flo d ≤ he2 → FR fba flo fta fbe (d + 1) he2 sz) ∧ ∀ he2, bs fba d ≤ he2 → FR fba flo fta fbe d he2 sz := by
  obtain ⟨B, L, T, Q, h1, h2, h3⟩ := h
  have up : ∀ k, d + k < de → B d + L d ≤ B (d + k) + L (d + k) ∧ (1 ≤ k → B d + L d ≤ B (d + k)) := by
    intro k
    induction k with
    | zero => intro _; exact ⟨Nat.le_refl _, fun z => absurd z (by decide)⟩
    | succ k ih =>
      intro hk
      have a := ih (by omega)
      have b := h2 (d + k) (by omega)
      rw [show d + (k + 1) = d + k + 1 from by omega]
      omega
  have a := up (de - 1 - d) (by omega)
  have b := h3 (de - 1) (by omega)
  rw [show d + (de - 1 - d) = de - 1 from by omega] at a
  have lim : B d + L d ≤ he := by omega
  obtain ⟨a1, a2, a3, a4, a5⟩ := h1 d hd
  obtain ⟨c1, -⟩ := h1 (de - 1) (by omega)
  rw [bs_of a1 (by omega), bs_of a2 (by omega), bs_of a3 (by omega), bs_of c1 (by omega)]
  refine ⟨a1, a2, a3, ⟨Q d, a4, a5, bs_of a4 (by omega)⟩, lim, fun z => a.2 (by omega), fun he2 hh2 => ⟨B, L, T, Q, fun e he => h1 e (by omega), fun e he => h2 e (by omega), fun e he => ?_⟩, fun he2 hh2 => ⟨B, L, T, Q, fun e he => h1 e (by omega), fun e he => h2 e (by omega), fun e he => ?_⟩⟩
  · obtain rfl : e = d := by omega
    exact hh2
  · have := h2 e (by omega)
    rw [he] at this
    omega
theorem sgn_t {b : Nat} (h : ¬ b ≤ 127) : nI b - 256 = sgn b := (if_pos (by omega)).symm
theorem sgn_f {b : Nat} (h : b ≤ 127) : nI b = sgn b := (if_neg (by omega)).symm
theorem SD.ix {fb : Nat → Int32} {sz n : Nat} {ad : Int32} (hB : BY fb) (hs : sz ≤ 300) (hn : n ≤ 3) (h : SD fb sz ad n) : ∃ j, ad = nI j ∧ ad.toNatClampNeg = j ∧ bs fb (j + 1) ≤ 3 ∧ bs fb (j + 2) ≤ 3 ∧ j + 3 + 4 * bs fb (j + 2) ≤ sz ∧ j < 300 := by
  obtain ⟨h1, h2, h3, h4⟩ := h
  obtain ⟨e1, l1, e2⟩ := ab_in hB hs (p := ad) (by omega)
  generalize ad.toNatClampNeg = j at e1 l1 e2
  subst e1
  obtain ⟨e3, l3, e4⟩ := ab_in hB hs (p := nI j + 1) (by omega)
  obtain ⟨e5, l5, e6⟩ := ab_in hB hs (p := nI j + 2) (by omega)
  have f1 : nI j + 1 = nI (j + 1) := nI_add j 1
  have f2 : nI j + 2 = nI (j + 2) := nI_add j 2
  have f3 : nI j + 3 = nI (j + 3) := nI_add j 3
  rw [f1, nI_clamp (by omega)] at e4
  rw [f2, nI_clamp (by omega)] at e6
  rw [f3, f2, nI_add] at h4
  rw [f1] at h2
  rw [f2] at h3
  have h5 : j + 3 + 4 * ab fb sz (nI (j + 2)) ≤ sz := Nat.le_of_not_lt (fun z => h4 (nI_lt z (by omega)))
  exact ⟨j, rfl, rfl, by omega, by omega, by omega, by omega⟩
theorem CPY_of {f g : Nat → Int32} {a b : Nat} (h : (∀ j, j < 928 → g (928 * b + j) = f (928 * a + j)) ∧ ∀ j, (∀ i, i < 928 → j ≠ 928 * b + i) → g j = f j) : g = CPY f a b := by
  funext j
  unfold CPY
  by_cases hc : 928 * b ≤ j ∧ j < 928 * b + 928
  · rw [if_pos hc]
    have := h.1 (j - 928 * b) (by omega)
    rw [show 928 * b + (j - 928 * b) = j from by omega] at this
    exact this
  · rw [if_neg hc]; exact h.2 j (fun i hi e => hc (by omega))
theorem CPY_cp {f : Nat → Int32} {a b : Nat} : CP a b f (CPY f a b) := by
  refine ⟨fun j hj => ?_, fun j hj => ?_⟩
  · unfold CPY; rw [if_pos (by omega), show 928 * b + j - 928 * b = j from by omega]
  · unfold CPY; rw [if_neg (fun hc => hj (j - 928 * b) (by omega) (by omega))]
theorem hnd_no {fb fw : Nat → Int32} {o t q i : Nat} {at_ : Int32} (hi : i < q) (h : ¬ HOK fb fw o at_ (t + 4 * i)) : hnd fb fw o at_ t (q - (i + 1)) (i + 1) = hnd fb fw o at_ t (q - i) i := by
  rw [show q - i = (q - (i + 1)) + 1 from by omega]
  exact (if_neg h).symm
theorem hnd_yes {fb fw : Nat → Int32} {o t q i : Nat} {at_ : Int32} (hi : i < q) (h : HOK fb fw o at_ (t + 4 * i)) : hnd fb fw o at_ t (q - i) i = some (t + 4 * i) := by
  rw [show q - i = (q - (i + 1)) + 1 from by omega]
  exact if_pos h
theorem hnd_bd {fb fw : Nat → Int32} {o t : Nat} {at_ : Int32} : ∀ (n i x : Nat), hnd fb fw o at_ t n i = some x → x + 4 ≤ t + 4 * (i + n) := by
  intro n
  induction n with
  | zero => intro i x h; exact absurd h (by simp [hnd])
  | succ n ih =>
    intro i x h
    by_cases hc : HOK fb fw o at_ (t + 4 * i)
    · rw [show hnd fb fw o at_ t (n + 1) i = some (t + 4 * i) from if_pos hc] at h
      have := Option.some.inj h
      omega
    · rw [show hnd fb fw o at_ t (n + 1) i = hnd fb fw o at_ t n (i + 1) from if_neg hc] at h
      have := ih (i + 1) x h
      omega
theorem hnd_0 {fb fw fta fbe fpl : Nat → Int32} {o d q : Nat} (h : bs fbe d = bs fta d + 4 * q) : hnd fb fw o (fpl d - fbe d) (bs fta d) (q - 0) 0 = hndF fb fw o fta fbe fpl d := by
  unfold hndF
  rw [h, show (bs fta d + 4 * q - bs fta d) / 4 = q from by omega]; rfl
theorem hndF_bd {fb fw fta fbe fpl : Nat → Int32} {o d q x : Nat} (h : bs fbe d = bs fta d + 4 * q) (hx : hndF fb fw o fta fbe fpl d = some x) : x + 4 ≤ bs fta d + 4 * q := by
  rw [← hnd_0 h] at hx
  have := hnd_bd _ _ _ hx
  omega
theorem oI_some {x : Option Nat} (h : ¬ oI x = -1) : ∃ q, x = some q := by
  cases x with
  | none => exact absurd rfl h
  | some q => exact ⟨q, rfl⟩
theorem oI_none {x : Option Nat} (hb : ∀ q, x = some q → q < 100000) (h : oI x = -1) : x = none := by
  cases x with
  | none => rfl
  | some q => exact absurd h (ne_m1 (by have := hb q rfl; omega))
theorem tos_no {fb fw fta fbe fpl : Nat → Int32} {o m : Nat} (hm : 1 ≤ m) (h : hndF fb fw o fta fbe fpl (m - 1) = none) : tos fb fw o fta fbe fpl (m - 1) = tos fb fw o fta fbe fpl m := by
  obtain ⟨k, rfl⟩ : ∃ k, m = k + 1 := ⟨m - 1, by omega⟩
  rw [show k + 1 - 1 = k from by omega] at h ⊢
  unfold tos
  rw [h]
  cases k with
  | zero => rfl
  | succ j => rw [tos]
theorem tos_yes {fb fw fta fbe fpl : Nat → Int32} {o m x : Nat} (hm : 1 ≤ m) (h : hndF fb fw o fta fbe fpl (m - 1) = some x) : tos fb fw o fta fbe fpl m = some (m - 1, x) := by
  obtain ⟨k, rfl⟩ : ∃ k, m = k + 1 := ⟨m - 1, by omega⟩
  rw [show k + 1 - 1 = k from by omega] at h ⊢
  unfold tos
  rw [h]
theorem lowf_s {fw : Nat → Int32} {k : Nat} (hk : k < 32) (h : fw (29 * k) = 1) : lowf fw (32 - (k + 1)) (k + 1) = lowf fw (32 - k) k := by
  rw [show 32 - k = 32 - (k + 1) + 1 from by omega]
  exact (if_pos h).symm
theorem lowf_e {fw : Nat → Int32} {k : Nat} (hk : k < 32) (h : ¬ fw (29 * k) = 1) : lowf fw (32 - k) k = k := by
  rw [show 32 - k = 32 - (k + 1) + 1 from by omega]
  exact if_neg h
theorem lt40 {fba flo : Nat → Int32} {de d he : Nat} (hd : d < de) (hu : d + 1 < de → bs fba d + bs flo d ≤ bs fba (de - 1)) (hb : bs fba (de - 1) + bs flo (de - 1) < he) (hh : he ≤ 40) : bs fba d + bs flo d < 40 := by
  by_cases z : d + 1 < de
  · have := hu z; omega
  · obtain rfl : d = de - 1 := by omega
    omega
