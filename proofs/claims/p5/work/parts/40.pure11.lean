/-! the class: reaching, fixing -/
theorem there_lt {fx : Nat} {oo : Int32} {fpa : Nat → Int32} (hfx : fx ≤ 16) (h : (∃ j, j < fx ∧ oo = nI j) ∨ ∃ j, 16 ≤ j ∧ j < 32 ∧ oo = nI j ∧ fpa (j - 16) ≠ -1) : ∃ q, q < 32 ∧ oo = nI q := by
  rcases h with ⟨j, hj, rfl⟩ | ⟨j, -, hj, rfl, -⟩
  · exact ⟨j, by omega, rfl⟩
  · exact ⟨j, hj, rfl⟩
def RCH (g : Nat → Int32) (n : Nat) (b : Int32) : Prop := n = bc b ∧ ROW g n
theorem RCH.le {g : Nat → Int32} {n : Nat} {b : Int32} (h : RCH g n b) : n ≤ 32 := by rw [h.1]; exact bc_le b
theorem RCH.add {g : Nat → Int32} {n j : Nat} {b : Int32} (h : RCH g n b) (hj : j < 32) (hb : bt b j = false) : n < 32 ∧ RCH (upd g n (nI j)) (n + 1) (b ||| 1 <<< (nI j &&& 31)) :=
  ⟨by rw [h.1]; exact bc_lt hj hb, by rw [h.1, bc_add hj hb], h.2.up hj⟩
theorem RCH.zero {g : Nat → Int32} : RCH g 0 0 := ⟨by decide +kernel, fun i hi => absurd hi (Nat.not_lt_zero i)⟩
theorem PAR.up {f : Nat → Int32} {k : Nat} {x : Int32} (h : PAR f) (hx : ON x) : PAR (upd f k x) := fun j hj => by
  by_cases e : j = k
  · subst e; rw [pk_us]; exact hx
  · rw [pk_un e]; exact h j hj
theorem cnt_low {s : Nat → Bool} {n fx : Nat} (h : ∀ q, q < n → s q = true → q < fx) : cnt s n ≤ fx := by
  induction n with
  | zero => exact Nat.zero_le _
  | succ n ih =>
    by_cases hn : s n = true
    · have h1 := h n (by omega) hn
      have h2 := cnt_le s (n + 1)
      omega
    · have h1 := ih (fun q hq hs => h q (by omega) hs)
      have h2 : cnt s (n + 1) = cnt s n := by
        show cnt s n + _ = cnt s n
        simp [hn]
      omega
def RWF (g : Nat → Int32) (n fx : Nat) : Prop := ∀ i, i < n → ∃ q, q < fx ∧ g i = nI q
def GA (g : Nat → Int32) (le : Nat) (b : Int32) (fx : Nat) : Prop := le = bc b ∧ RWF g le fx ∧ ∀ q, q < 32 → bt b q = true → q < fx
theorem GA.zero {g : Nat → Int32} {fx : Nat} : GA g 0 0 fx := ⟨by decide +kernel, fun i hi => absurd hi (Nat.not_lt_zero i), fun q _ hb => by rw [b_0] at hb; exact absurd hb (by decide)⟩
theorem GA.le {g : Nat → Int32} {le fx : Nat} {b : Int32} (h : GA g le b fx) : le ≤ fx := by rw [h.1]; exact cnt_low h.2.2
theorem GA.add {g : Nat → Int32} {le fx q : Nat} {b : Int32} (h : GA g le b fx) (hfx : fx ≤ 16) (hq : q < fx) (hb : bt b q = false) : le < 32 ∧ GA (upd g le (nI q)) (le + 1) (b ||| 1 <<< (nI q &&& 31)) fx := by
  have hq32 : q < 32 := by omega
  refine ⟨by rw [h.1]; exact bc_lt hq32 hb, by rw [h.1, bc_add hq32 hb], fun i hi => ?_, fun j hj hbj => ?_⟩
  · by_cases e : i = le
    · subst e; rw [pk_us]; exact ⟨q, hq, rfl⟩
    · rw [pk_un e]; exact h.2.1 i (by omega)
  · rw [b_add hq32 hj, Bool.or_eq_true] at hbj
    rcases hbj with z | z
    · exact h.2.2 j hj z
    · rw [of_decide_eq_true z]; exact hq
/-- the lines of the fixed objects -/
def LNI (ffl ffn : Nat → Int32) (fx : Nat) : Prop := ∀ i, i < fx → ∃ m, m ≤ i + 1 ∧ ffn i = nI m ∧ ∀ k, k < m → ∃ q, q ≤ i ∧ ffl (i * 16 + k) = nI q
def FXI (ffl ffn : Nat → Int32) (fx : Nat) : Prop := FLN ffn ∧ FLL ffl ∧ LNI ffl ffn fx
def FXP (ffl g : Nat → Int32) (fx k : Nat) : Prop := g (fx * 16) = nI fx ∧ (∀ i, i < k → ∃ q, q < fx ∧ g (fx * 16 + 1 + i) = nI q) ∧ ∀ j, (j < fx * 16 ∨ fx * 16 + 1 + k ≤ j) → g j = ffl j
theorem FXP.init {ffl : Nat → Int32} {fx : Nat} : FXP ffl (upd ffl (fx * 16) (nI fx)) fx 0 := ⟨pk_us, fun i hi => absurd hi (Nat.not_lt_zero i), fun j hj => pk_un (by omega)⟩
theorem FXP.step {ffl g : Nat → Int32} {fx k q : Nat} (h : FXP ffl g fx k) (hq : q < fx) : FXP ffl (upd g (fx * 16 + 1 + k) (nI q)) fx (k + 1) := by
  refine ⟨by rw [pk_un (by omega)]; exact h.1, fun i hi => ?_, fun j hj => by rw [pk_un (by omega)]; exact h.2.2 j (by omega)⟩
  by_cases e : i = k
  · subst e; exact ⟨q, hq, pk_us⟩
  · rw [pk_un (by omega)]; exact h.2.1 i (by omega)
theorem FXI.new {ffl ffn g : Nat → Int32} {fx k : Nat} (h : FXI ffl ffn fx) (hfx : fx < 16) (hk : k ≤ fx) (hg : FXP ffl g fx k) : FXI g (upd ffn fx (nI (k + 1))) (fx + 1) := by
  refine ⟨fun i hi => ?_, fun i hi => ?_, fun i hi => ?_⟩
  · by_cases e : i = fx
    · subst e; rw [pk_us]; exact ⟨k + 1, by omega, rfl⟩
    · rw [pk_un e]; exact h.1 i hi
  · by_cases e : i = fx * 16
    · rw [e, hg.1]; exact ⟨fx, by omega, rfl⟩
    · by_cases e2 : i < fx * 16 ∨ fx * 16 + 1 + k ≤ i
      · rw [hg.2.2 i e2]; exact h.2.1 i hi
      · obtain ⟨q, hq, e3⟩ := hg.2.1 (i - (fx * 16 + 1)) (by omega)
        rw [show fx * 16 + 1 + (i - (fx * 16 + 1)) = i from by omega] at e3
        exact ⟨q, by omega, e3⟩
  · by_cases e : i = fx
    · subst e
      rw [pk_us]
      refine ⟨k + 1, by omega, rfl, fun j hj => ?_⟩
      by_cases e0 : j = 0
      · subst e0; exact ⟨i, Nat.le_refl i, hg.1⟩
      · obtain ⟨q, hq, e3⟩ := hg.2.1 (j - 1) (by omega)
        rw [show i * 16 + 1 + (j - 1) = i * 16 + j from by omega] at e3
        exact ⟨q, by omega, e3⟩
    · obtain ⟨m, hm, e1, hl⟩ := h.2.2 i (by omega)
      rw [pk_un e]
      refine ⟨m, hm, e1, fun j hj => ?_⟩
      obtain ⟨q, hq, e3⟩ := hl j hj
      exact ⟨q, hq, by rw [hg.2.2 _ (Or.inl (by omega))]; exact e3⟩
/-! reading the script -/
def satv (fb : Nat → Int32) (ln : Nat) (p : Int32) : Int32 := if ¬ p < 0 ∧ p.toNatClampNeg < ln then fb p.toNatClampNeg else -1
theorem satv_in {fb : Nat → Int32} {ln j : Nat} (hj : j < ln) (hs : ln ≤ 300) : fb j = satv fb ln (nI j) := by
  unfold satv
  rw [nI_clamp (by omega), if_pos ⟨nI_pos (by omega), hj⟩]
theorem satv_neg {fb : Nat → Int32} {ln : Nat} {x : Int32} (h : x < 0) : -1 = satv fb ln x := by
  unfold satv; rw [if_neg (fun z => z.1 h)]
theorem satv_out {fb : Nat → Int32} {ln : Nat} {x : Int32} (hs : ln ≤ 300) (h0 : ¬ x < 0) (h : nI ln ≤ x) : -1 = satv fb ln x := by
  unfold satv
  obtain ⟨j, hj, rfl⟩ := nI_of h0
  rw [nI_clamp hj, if_neg]
  intro ⟨_, h2⟩
  exact absurd h (nI_ge h2 (by omega))
/-- a byte, or none -/
def BT (x : Int32) : Prop := x = -1 ∨ ∃ b, b ≤ 255 ∧ x = nI b
theorem satv_bt {fb : Nat → Int32} {ln : Nat} {p : Int32} (hB : BY fb) (hs : ln ≤ 300) : BT (satv fb ln p) := by
  unfold satv
  by_cases hc : ¬ p < 0 ∧ p.toNatClampNeg < ln
  · rw [if_pos hc]; exact Or.inr (hB _ (by omega))
  · rw [if_neg hc]; exact Or.inl rfl
theorem BT.small {x : Int32} (h : BT x) (h1 : ¬ x = -1) (h3 : ¬ 3 < x) : ∃ q, q ≤ 3 ∧ x = nI q := by
  rcases h with h | ⟨b, hb, rfl⟩
  · exact absurd h h1
  · exact ⟨b, Nat.le_of_not_lt (fun z => h3 (nI_lt (a := 3) (b := b) z (by omega))), rfl⟩
