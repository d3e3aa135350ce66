/-! the interpreter's pure rows -/
def atv (fb : Nat → Int32) (sz : Nat) (p : Int32) : Int32 := if ¬ p < 0 ∧ p.toNatClampNeg < sz then fb p.toNatClampNeg else 1000
theorem atv_in {fb : Nat → Int32} {sz j : Nat} (hj : j < sz) (hs : sz ≤ 300) : fb j = atv fb sz (nI j) := by
  unfold atv
  rw [nI_clamp (by omega), if_pos ⟨nI_pos (by omega), hj⟩]
theorem atv_out {fb : Nat → Int32} {sz : Nat} {x : Int32} (hs : sz ≤ 300) (h : x < 0 ∨ nI sz - 1 < x) : 1000 = atv fb sz x := by
  unfold atv
  rw [if_neg]
  intro ⟨h1, h2⟩
  rcases h with h | h
  · exact h1 h
  · obtain ⟨j, hj, rfl⟩ := nI_of h1
    rw [nI_clamp hj] at h2
    cases sz with
    | zero => omega
    | succ n =>
      rw [nI_pred] at h
      exact absurd h (nI_nlt (by omega) (by omega))
theorem atv_lt {fb : Nat → Int32} {sz n : Nat} {p : Int32} (hB : BY fb) (hs : sz ≤ 300) (hn : n ≤ 1000) (h : ¬ nI n ≤ atv fb sz p) : ∃ b, b < n ∧ atv fb sz p = nI b := by
  unfold atv at h ⊢
  by_cases hc : ¬ p < 0 ∧ p.toNatClampNeg < sz
  · rw [if_pos hc] at h ⊢
    obtain ⟨b, hb, e⟩ := hB p.toNatClampNeg (by omega)
    rw [e] at h ⊢
    exact ⟨b, Nat.lt_of_not_le (fun z => h (nI_le z (by omega))), rfl⟩
  · rw [if_neg hc] at h
    exact absurd (nI_le (a := n) (b := 1000) hn (by decide)) h
theorem atv_le {fb : Nat → Int32} {sz n : Nat} {p : Int32} (hB : BY fb) (hs : sz ≤ 300) (hn : n < 1000) (h : ¬ nI n < atv fb sz p) : ∃ b, b ≤ n ∧ atv fb sz p = nI b := by
  unfold atv at h ⊢
  by_cases hc : ¬ p < 0 ∧ p.toNatClampNeg < sz
  · rw [if_pos hc] at h ⊢
    obtain ⟨b, hb, e⟩ := hB p.toNatClampNeg (by omega)
    rw [e] at h ⊢
    exact ⟨b, Nat.le_of_not_lt (fun z => h (nI_lt z (by omega))), rfl⟩
  · rw [if_neg hc] at h
    exact absurd (nI_lt (a := n) (b := 1000) hn (by decide)) h
theorem FR.up {fba flo fta fbe : Nat → Int32} {de h1 h2 sz : Nat} (h : FR fba flo fta fbe de h1 sz) (hh : h1 ≤ h2) : FR fba flo fta fbe de h2 sz := by
  obtain ⟨B, L, T, Q, a1, a2, a3⟩ := h
  exact ⟨B, L, T, Q, a1, a2, fun d hd => Nat.le_trans (a3 d hd) hh⟩
theorem ge_lt {x : Int32} (h : x < 0) : ¬ 0 ≤ x := fun z => by
  rw [Int32.le_iff_toInt_le] at z
  rw [Int32.lt_iff_toInt_lt] at h
  omega
theorem nI_inc4 (t i : Nat) : nI (t + 4 * i) + Int32.ofInt 4 = nI (t + 4 * (i + 1)) := by
  have h := nI_add (t + 4 * i) 4
  rw [show t + 4 * (i + 1) = t + 4 * i + 4 from by omega]
  exact h
theorem make_ok {fw g : Nat → Int32} {fx x pp : Nat} (hO : WO fw fx) (h1 : 16 ≤ x) (h2 : x < 32) (h0 : fw (29 * x) ≠ 1) (hp : pp < 32) (hpt : fw (29 * pp) = 1) (hg : ∀ j, (∀ i, i < 29 → j ≠ 29 * x + i) → g j = fw j) :
    WO (upd (upd g (29 * x + 1) 1) (29 * x + 2) (nI pp)) fx ∧ ∀ j, 928 ≤ j → upd (upd g (29 * x + 1) 1) (29 * x + 2) (nI pp) j = fw j := by
  have far : ∀ j, (∀ i, i < 29 → j ≠ 29 * x + i) → upd (upd g (29 * x + 1) 1) (29 * x + 2) (nI pp) j = fw j := fun j hj => by
    rw [pk_un (hj 2 (by decide)), pk_un (hj 1 (by decide))]; exact hg j hj
  refine ⟨hO.new (x := x) (n := 1) h2 h0 (by decide) (by rw [pk_un (by omega), pk_us]; rfl) (fun k hk => ?_) far (fun o h3 h4 => ⟨h3, by omega⟩), fun j hj => far j (fun i hi => by omega)⟩
  obtain rfl : k = 0 := by omega
  exact ⟨pp, hp, pk_us, hpt⟩
def CP (fr to_ : Nat) (fw g : Nat → Int32) : Prop := (∀ j, j < 928 → g (928 * to_ + j) = fw (928 * fr + j)) ∧ ∀ j, (∀ i, i < 928 → j ≠ 928 * to_ + i) → g j = fw j
theorem CP.other {fr to_ v : Nat} {fw g : Nat → Int32} (h : CP fr to_ fw g) (hv : v ≠ to_) : ∀ j, j < 928 → g (928 * v + j) = fw (928 * v + j) := fun j hj => h.2 _ (fun i hi => by rcases Nat.lt_trichotomy v to_ with z | z | z <;> omega)
theorem WO.zero {fw : Nat → Int32} {fx : Nat} (h : WO fw fx) : WO (fun j => fw (928 * 0 + j)) fx := h.congr (fun j _ => by rw [show 928 * 0 + j = j from by omega])
theorem CP.zero {fr to_ : Nat} {fw g : Nat → Int32} (h : CP fr to_ fw g) (ht : 1 ≤ to_) : ∀ j, j < 928 → g j = fw j := fun j hj => h.2 _ (fun i hi => by omega)
theorem WA.cpt {fw g : Nat → Int32} {fx po po2 fr to_ : Nat} {fs : Nat → Int32} (h : WA fw fx po fs) (hf : WO (fun j => fw (928 * fr + j)) fx) (h1 : 1 ≤ to_) (h3 : to_ ≤ 3) (hv : ∀ v, v ≤ po2 → v ≠ to_ → v ≤ po) (c : CP fr to_ fw g) : WA g fx po2 fs := by
  refine ⟨h.1.congr (c.zero h1), fun v v1 v2 => ?_, fun k k1 k2 => (h.2.2 k k1 k2).congr (c.other (by omega))⟩
  by_cases e : v = to_
  · subst e; exact hf.congr c.1
  · exact (h.2.1 v v1 (hv v v2 e)).congr (c.other e)
theorem WA.save {fw g : Nat → Int32} {fx po k : Nat} {fs : Nat → Int32} (h : WA fw fx po fs) (hp : po ≤ 3) (hk : k < 2) (c : CP 0 (4 + k) fw g) : WA g fx po (upd fs k 1) := by
  refine ⟨h.1.congr (c.zero (by omega)), fun v v1 v2 => (h.2.1 v v1 v2).congr (c.other (by omega)), fun i i1 i2 => ?_⟩
  by_cases e : i = k
  · subst e; exact h.1.zero.congr c.1
  · rw [pk_un e] at i2
    exact (h.2.2 i i1 i2).congr (c.other (by omega))
theorem WA.back {fw g : Nat → Int32} {fx po po2 fr : Nat} {fs : Nat → Int32} (h : WA fw fx po fs) (hf : WO (fun j => fw (928 * fr + j)) fx) (hp : po2 ≤ po) (c : CP fr 0 fw g) : WA g fx po2 fs :=
  ⟨hf.congr (fun j hj => by have z := c.1 j hj; rw [show 928 * 0 + j = j from by omega] at z; exact z), fun v v1 v2 => (h.2.1 v v1 (by omega)).congr (c.other (by omega)), fun k k1 k2 => (h.2.2 k k1 k2).congr (c.other (by omega))⟩
theorem hd_ix {r : Int32} (h : r = -1 ∨ ∃ x, r = nI x ∧ x + 4 ≤ 300) : ∃ x, x < 300 ∧ r + 3 = nI x := by
  rcases h with rfl | ⟨x, rfl, hx⟩
  · exact ⟨2, by decide, by decide⟩
  · exact ⟨x + 3, by omega, nI_add x 3⟩
theorem nI_dec1 {n : Nat} (h : 1 ≤ n) : nI n - 1 = nI (n - 1) := by
  cases n with
  | zero => omega
  | succ n => exact nI_pred n
theorem ne_m1 {n : Nat} (h : n < 2 ^ 31) : ¬ nI n = -1 := fun z => nI_pos h (by rw [z]; decide)
theorem th0 {fw : Nat → Int32} (h : ∃ j, j < 32 ∧ (0 : Int32) = nI j ∧ fw (29 * j) = 1) : fw (29 * 0) = 1 := by
  obtain ⟨j, hj, e, ht⟩ := h
  have : 0 = j := (nI_eq (a := 0) (b := j) (by decide) (by omega)).mp e
  rw [this]; exact ht
theorem RI.over {sz fx po he de sd : Nat} {en k : Int32} {fb fw fs fba flo fta fbe : Nat → Int32} (h : RI sz fx po he de sd en fb fw fs fba flo fta fbe) (hk : ¬ k = 0) : RI sz fx 0 he de sd k fb fw fs fba flo fta fbe :=
  RI.mk h.hsz h.by_ h.hfx (by omega) h.hhe h.hde h.hsd (fun z => absurd z hk) (fun _ => rfl) (h.wa.po (by omega)) h.fr
