/-! the class's collector: a row of what was come to, and the same as bits -/
def RCI (S : Nat → Prop) (g : Nat → Int32) (n : Nat) (b : Int32) : Prop := RCH g n b ∧ (∀ i, i < n → ∀ q, q < 32 → g i = nI q → bt b q = true) ∧ (∀ q, q < 32 → bt b q = true → ∃ i, i < n ∧ g i = nI q) ∧ MSB b S
theorem RCI.zero {S : Nat → Prop} {g : Nat → Int32} : RCI S g 0 0 := ⟨RCH.zero, fun i hi => absurd hi (Nat.not_lt_zero i), fun q _ hb => absurd hb (by rw [b_0]; decide), fun q _ hb => absurd hb (by rw [b_0]; decide)⟩
theorem RCI.add {S : Nat → Prop} {g : Nat → Int32} {n j : Nat} {b : Int32} (h : RCI S g n b) (hj : j < 32) (hb : bt b j = false) (hS : S j) : n < 32 ∧ RCI S (upd g n (nI j)) (n + 1) (b ||| 1 <<< (nI j &&& 31)) := by
  obtain ⟨h1, h2, h3, h4⟩ := h
  obtain ⟨a1, a2⟩ := h1.add hj hb
  refine ⟨a1, a2, fun i hi q hq e => ?_, fun q hq hbq => ?_, fun q hq hbq => ?_⟩
  · rw [b_add hj hq, Bool.or_eq_true]
    by_cases ei : i = n
    · subst ei
      rw [pk_us] at e
      exact Or.inr (decide_eq_true ((nI_eq (by omega) (by omega)).mp e).symm)
    · rw [pk_un ei] at e
      exact Or.inl (h2 i (by omega) q hq e)
  · rw [b_add hj hq, Bool.or_eq_true] at hbq
    rcases hbq with z | z
    · obtain ⟨i, hi, e⟩ := h3 q hq z
      exact ⟨i, by omega, by rw [pk_un (by omega)]; exact e⟩
    · exact ⟨n, by omega, by rw [pk_us, of_decide_eq_true z]⟩
  · rw [b_add hj hq, Bool.or_eq_true] at hbq
    rcases hbq with z | z
    · exact h4 q hq z
    · rw [of_decide_eq_true z]; exact hS
def RGO (g : Nat → Int32) (n : Nat) (b : Int32) (g2 : Nat → Int32) (n2 : Nat) (b2 : Int32) : Prop := SUP b b2 ∧ n ≤ n2 ∧ ∀ i, i < n → g2 i = g i
theorem RGO.rf {g : Nat → Int32} {n : Nat} {b : Int32} : RGO g n b g n b := ⟨SUP.rf, Nat.le_refl _, fun _ _ => rfl⟩
theorem RGO.tr {g g2 g3 : Nat → Int32} {n n2 n3 : Nat} {b b2 b3 : Int32} (h : RGO g n b g2 n2 b2) (h2 : RGO g2 n2 b2 g3 n3 b3) : RGO g n b g3 n3 b3 := ⟨h.1.tr h2.1, Nat.le_trans h.2.1 h2.2.1, fun i hi => (h2.2.2 i (by have := h.2.1; omega)).trans (h.2.2 i hi)⟩
theorem RGO.add {g : Nat → Int32} {n j : Nat} {b : Int32} (hj : j < 32) : RGO g n b (upd g n (nI j)) (n + 1) (b ||| 1 <<< (nI j &&& 31)) := ⟨SUP.rf.add hj, by omega, fun i hi => pk_un (by omega)⟩
/-- what is come to from one object -/
def CL1 (fw : Nat → Int32) (o : Nat) (b : Int32) : Prop := (∀ k, k < pnN fw o → bt b (pqN fw o k) = true) ∧ CVP fw o 8 b
theorem CL1.up {fw : Nat → Int32} {o : Nat} {b c : Int32} (h : CL1 fw o b) (hs : SUP b c) (hp : ∀ k, k < pnN fw o → pqN fw o k < 32) : CL1 fw o c := ⟨fun k hk => hs _ (hp k hk) (h.1 k hk), h.2.up hs⟩
theorem fixpar {f ffl ffn fpa : Nat → Int32} {fx i k : Nat} (hc : CW f fx ffl ffn fpa) (hX : FXI ffl ffn fx) (hi : i < fx) (hk : k < pnN f i) : pqN f i k < fx := by
  obtain ⟨⟨rk, hw⟩, hfx, hlo, -, -⟩ := hc
  obtain ⟨h1, m, hm, hme, hrow⟩ := hlo i hi
  obtain ⟨m2, hm2, hme2, hml⟩ := hX.2.2 i hi
  obtain rfl : m = m2 := (nI_eq (by omega) (by omega)).mp (hme.symm.trans hme2)
  have hin : pqN f i k ∈ LNE f i := (LNE_closed hw (by omega) h1).1 i (LNE_closed hw (by omega) h1).2 k hk
  rw [← List.mem_reverse, ← hrow] at hin
  obtain ⟨a, ha, e⟩ := List.mem_map.mp hin
  obtain ⟨q, hq, e2⟩ := hml a (List.mem_range.mp ha)
  rw [e2, nI_clamp (by omega)] at e
  omega
theorem own3 {f fkd fit : Nat → Int32} {o p : Nat} (h : OWN f fkd fit) (ho : o < 32) (hp : p < 8) (h3 : fkd (o * 8 + p) = 3) : f (29 * o + 5 + 3 * p) = 1 ∧ f (29 * o + 5 + 3 * p + 1) = 3 ∧ fit (o * 8 + p) = f (29 * o + 5 + 3 * p + 2) := by
  have hf : f (29 * o + 5 + 3 * p) = 1 := Classical.byContradiction (fun z => absurd (h3.symm.trans ((h o ho p hp).2 z)) (by decide))
  obtain ⟨e1, e2, -, -⟩ := (h o ho p hp).1 hf
  have e3 : f (29 * o + 5 + 3 * p + 1) = 3 := e1.symm.trans h3
  exact ⟨hf, e3, by rw [e2, e3]; exact tv3⟩
theorem own3r {f fkd fit : Nat → Int32} {o p : Nat} (h : OWN f fkd fit) (ho : o < 32) (hp : p < 8) (hf : f (29 * o + 5 + 3 * p) = 1) (h3 : f (29 * o + 5 + 3 * p + 1) = 3) : fkd (o * 8 + p) = 3 ∧ fit (o * 8 + p) = f (29 * o + 5 + 3 * p + 2) := by
  obtain ⟨e1, e2, -, -⟩ := (h o ho p hp).1 hf
  exact ⟨e1.trans h3, by rw [e2, h3]; exact tv3⟩
theorem cl_cls {fw : Nat → Int32} {mk : Int32} (h : CLS fw (fun q => q < 32 → bt mk q = true)) : CL fw mk mk := fun o ho hb n hn e k hk q hq e2 => by
  have := (h o ho (fun _ => hb)).1 k (by rw [pn_of e hn]; exact hk)
  rw [pq_of e2 hq] at this
  exact this hq
theorem swp_cls {fw g : Nat → Int32} {n : Nat} {b : Int32} {S : Nat → Prop} (hi : RCI S g n b) (hd : ∀ i, i < n → ∀ q, q < 32 → g i = nI q → CL1 fw q b) : CLS fw (fun q => q < 32 → bt b q = true) := fun o ho h => by
  obtain ⟨i, h1, h2⟩ := hi.2.2.1 o ho (h ho)
  have h3 := hd i h1 o ho h2
  exact ⟨fun k hk _ => h3.1 k hk, fun p hp a1 a2 q hq a3 a4 _ => h3.2 p hp a1 a2 q hq a3 a4⟩
