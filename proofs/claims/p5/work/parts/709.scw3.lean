/-! the class's world: found by place -/
theorem mem_lst {g : Nat → Int32} {n b : Nat} (hr : ROW g n) (hb : b < 100000) : b ∈ lst g n ↔ ∃ j, j < n ∧ g j = nI b := by
  unfold lst
  rw [List.mem_map]
  constructor
  · rintro ⟨j, hj, e⟩
    have hj := List.mem_range.mp hj
    obtain ⟨q, hq, eq⟩ := hr j hj
    rw [eq, nI_clamp (by omega)] at e
    exact ⟨j, hj, by rw [eq, e]⟩
  · rintro ⟨j, hj, e⟩
    exact ⟨j, List.mem_range.mpr hj, by rw [e, nI_clamp (by omega)]⟩
theorem bhd_at {g : Nat → Int32} {b : Int32} : ∀ (n j : Nat), ROW g n → j < n → g j = b → (∀ i, i < j → ¬ g i = b) → ∀ k, k ≤ j → bhd b ((lst g n).drop k) = (lst g n).drop (j + 1) := by
  intro n j hr hj he hno k hk
  induction hd : j - k generalizing k with
  | zero =>
    obtain rfl : k = j := by omega
    obtain ⟨q, hq, eq⟩ := hr k hj
    rw [dr_s hj eq hq]
    unfold bhd
    rw [List.dropWhile_cons_of_neg (by simp; rw [← eq]; exact he)]
    rfl
  | succ d ih =>
    obtain ⟨q, hq, eq⟩ := hr k (by omega)
    rw [dr_s (by omega) eq hq]
    have := ih (k + 1) (by omega) (by omega)
    rw [← this]
    unfold bhd
    rw [List.dropWhile_cons_of_pos (by simp; rw [← eq]; exact hno k (by omega))]
theorem dw_nil {p : Nat → Bool} : ∀ l : List Nat, (∀ x, x ∈ l → p x = true) → l.dropWhile p = [] := by
  intro l
  induction l with
  | nil => intro _; rfl
  | cons a l ih =>
    intro h
    rw [List.dropWhile_cons_of_pos (h a (List.mem_cons_self))]
    exact ih (fun x hx => h x (List.mem_cons_of_mem _ hx))
theorem bhd_none {g : Nat → Int32} {b : Int32} {n : Nat} (hr : ROW g n) (hno : ∀ i, i < n → ¬ g i = b) : bhd b (lst g n) = [] := by
  unfold bhd
  rw [dw_nil _ (fun x hx => by
    obtain ⟨j, hj, e⟩ := List.mem_map.mp hx
    have hj := List.mem_range.mp hj
    obtain ⟨q, hq, eq⟩ := hr j hj
    rw [eq, nI_clamp (by omega)] at e
    subst e
    simp
    rw [← eq]
    exact hno j hj)]
  rfl
theorem CW.there {f ffl ffn fpa : Nat → Int32} {fx : Nat} {oo : Int32} (hc : CW f fx ffl ffn fpa) : ((∃ j, j < fx ∧ oo = nI j) ∨ ∃ j, 16 ≤ j ∧ j < 32 ∧ oo = nI j ∧ fpa (j - 16) ≠ -1) ↔ TH f oo := by
  obtain ⟨-, hfx, hlo, hno, hm⟩ := hc
  constructor
  · rintro (⟨j, hj, rfl⟩ | ⟨j, h1, h2, rfl, h3⟩)
    · exact TH.of (by omega) (hlo j hj).1
    · exact TH.of h2 ((hm j h1 h2).2.1.mpr h3)
  · intro h
    obtain ⟨e, h1, h2⟩ := h.ix
    generalize oo.toNatClampNeg = j at e h1 h2
    subst e
    rcases Nat.lt_or_ge j fx with z | z
    · exact Or.inl ⟨j, z, rfl⟩
    · rcases Nat.lt_or_ge j 16 with y | y
      · exact absurd h2 (hno j z y)
      · exact Or.inr ⟨j, y, h1, rfl, (hm j y h1).2.1.mp h2⟩
abbrev DSC (f : Nat → Int32) (a b : Int32) : Prop := TH f a ∧ TH f b ∧ b.toNatClampNeg ∈ LNE f a.toNatClampNeg
def CLR (f : Nat → Int32) (o : Nat) (v : Int32) : Nat → Nat → Int32
  | 0 => f
  | n + 1 => upd (CLR f o v n) (o * 8 + n) v
theorem lowf_c {f fpa : Nat → Int32} {k : Nat} (hk : k < 16) (hm : ∀ o, 16 ≤ o → o < 32 → (f (29 * o) = 1 ↔ ¬ fpa (o - 16) = -1)) (h : ¬ fpa k = -1) : lowf f (16 - (k + 1)) (16 + (k + 1)) = lowf f (16 - k) (16 + k) := by
  rw [show 16 - k = 16 - (k + 1) + 1 from by omega]
  exact (if_pos ((hm (16 + k) (by omega) (by omega)).mpr (by rw [show 16 + k - 16 = k from by omega]; exact h))).symm
theorem lowf_d {f fpa : Nat → Int32} {k : Nat} (hk : k < 16) (hm : ∀ o, 16 ≤ o → o < 32 → (f (29 * o) = 1 ↔ ¬ fpa (o - 16) = -1)) (h : fpa k = -1) : lowf f (16 - k) (16 + k) = 16 + k := by
  rw [show 16 - k = 16 - (k + 1) + 1 from by omega]
  exact if_neg (fun z => (hm (16 + k) (by omega) (by omega)).mp z (by rw [show 16 + k - 16 = k from by omega]; exact h))
