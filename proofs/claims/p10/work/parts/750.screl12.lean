/-! show: what it answers, and how many objects are there -/
theorem Z01.congr {f g : Nat → Int32} (h : Z01 f) (e : ∀ o, o < 32 → g (29 * o) = f (29 * o)) : Z01 g := fun o ho => by rw [e o ho]; exact h o ho
def CNP (fpa : Nat → Int32) : Nat → Nat
  | 0 => 0
  | n + 1 => if fpa n = -1 then CNP fpa n else CNP fpa n + 1
def SUMW (f : Nat → Int32) : Nat → Int32
  | 0 => 0
  | n + 1 => SUMW f n + f (29 * n)
def CNW (f : Nat → Int32) : Nat → Nat
  | 0 => 0
  | n + 1 => if f (29 * n) = 1 then CNW f n + 1 else CNW f n
theorem sumw {f : Nat → Int32} (hz : Z01 f) : ∀ n, n ≤ 32 → SUMW f n = nI (CNW f n) := by
  intro n
  induction n with
  | zero => intro _; rfl
  | succ n ih =>
    intro hn
    have h1 := ih (by omega)
    show SUMW f n + f (29 * n) = nI (if f (29 * n) = 1 then CNW f n + 1 else CNW f n)
    rcases hz n (by omega) with h | h
    · rw [h, if_neg (by decide), h1, Int32.add_zero]
    · rw [h, if_pos rfl, h1]; exact nI_add _ 1
theorem cnw_lo {f ffl ffn fpa : Nat → Int32} {fx : Nat} (hc : CW f fx ffl ffn fpa) : ∀ n, n ≤ 16 → (n ≤ fx → CNW f n = n) ∧ (fx ≤ n → CNW f n = fx) := by
  intro n
  induction n with
  | zero => intro _; exact ⟨fun _ => rfl, fun h => by show 0 = fx; omega⟩
  | succ n ih =>
    intro hn
    obtain ⟨h1, h2⟩ := ih (by omega)
    refine ⟨fun h => ?_, fun h => ?_⟩
    · show (if f (29 * n) = 1 then CNW f n + 1 else CNW f n) = n + 1
      rw [if_pos (hc.2.2.1 n (by omega)).1, h1 (by omega)]
    · show (if f (29 * n) = 1 then CNW f n + 1 else CNW f n) = fx
      by_cases e : n < fx
      · rw [if_pos (hc.2.2.1 n e).1, h1 (by omega)]; omega
      · rw [if_neg (hc.2.2.2.1 n (by omega) (by omega)), h2 (by omega)]
theorem cnw_hi {f ffl ffn fpa : Nat → Int32} {fx : Nat} (hc : CW f fx ffl ffn fpa) : ∀ n, n ≤ 16 → CNW f (16 + n) = fx + CNP fpa n := by
  intro n
  induction n with
  | zero => intro _; exact (cnw_lo hc 16 (Nat.le_refl _)).2 hc.2.1
  | succ n ih =>
    intro hn
    have h1 := ih (by omega)
    obtain ⟨-, h2, -⟩ := hc.2.2.2.2 (16 + n) (by omega) (by omega)
    rw [show 16 + n - 16 = n from by omega] at h2
    show (if f (29 * (16 + n)) = 1 then CNW f (16 + n) + 1 else CNW f (16 + n)) = fx + (if fpa n = -1 then CNP fpa n else CNP fpa n + 1)
    by_cases e : fpa n = -1
    · rw [if_pos e, if_neg (fun z => h2.mp z e), h1]
    · rw [if_neg e, if_pos (h2.mpr e), h1]; omega
theorem cnt_eq {f ffl ffn fpa : Nat → Int32} {fx : Nat} (hc : CW f fx ffl ffn fpa) (hz : Z01 f) : SUMW f 32 = nI (fx + CNP fpa 16) := by
  rw [sumw hz 32 (Nat.le_refl _)]
  exact congrArg nI (cnw_hi hc 16 (Nat.le_refl _))
def SCD (wh : Int32) (de : Nat) : Int32 := if OUTS wh 0 5 ∨ (de = 0 ∧ (wh = 1 ∨ wh = 2)) then 1 else 0
def SHV (wh : Int32) (de po sd : Nat) (ct : Int32) (fpl fse : Nat → Int32) : Int32 := if wh = 0 then nI de else if wh = 1 then fpl (de - 1) else if wh = 2 then fse (de - 1) else if wh = 3 then nI po else if wh = 4 then ct else nI sd
theorem scd_ok {wh : Int32} {de : Nat} (h1 : ¬ OUTS wh 0 5) (h2 : de = 0 → ¬ wh = 1 ∧ ¬ wh = 2) : 0 = SCD wh de := (if_neg (fun z => z.elim h1 (fun y => y.2.elim (h2 y.1).1 (h2 y.1).2))).symm
theorem scd_no {wh : Int32} {de : Nat} (h : OUTS wh 0 5 ∨ (de = 0 ∧ (wh = 1 ∨ wh = 2))) : SCD wh de = 1 := if_pos h
theorem out5 {k : Int32} (h0 : ¬ k = 0) (h1 : ¬ k = 1) (h2 : ¬ k = 2) (h3 : ¬ k = 3) (h4 : ¬ k = 4) (h5 : ¬ k = 5) : OUTS k 0 5 := by
  have e0 : (0 : Int32).toInt = 0 := by decide
  have e1 : (1 : Int32).toInt = 1 := by decide
  have e2 : (2 : Int32).toInt = 2 := by decide
  have e3 : (3 : Int32).toInt = 3 := by decide
  have e4 : (4 : Int32).toInt = 4 := by decide
  have e5 : (5 : Int32).toInt = 5 := by decide
  have n : ∀ (x : Int32), ¬ k = x → k.toInt ≠ x.toInt := fun x h z => h (Int32.toInt_inj.mp z)
  have m0 := n 0 h0
  have m1 := n 1 h1
  have m2 := n 2 h2
  have m3 := n 3 h3
  have m4 := n 4 h4
  have m5 := n 5 h5
  have h : k.toInt < 0 ∨ 5 < k.toInt := by omega
  rcases h with h | h
  · exact Or.inl (Int32.lt_iff_toInt_lt.mpr (by omega))
  · exact Or.inr (Int32.lt_iff_toInt_lt.mpr (by omega))
theorem in5 {k : Int32} (h : k = 0 ∨ k = 1 ∨ k = 2 ∨ k = 3 ∨ k = 4 ∨ k = 5) : ¬ OUTS k 0 5 := by
  rcases h with rfl | rfl | rfl | rfl | rfl | rfl <;> exact fun z => absurd z (by decide)
theorem is5 {k : Int32} (h : ¬ OUTS k 0 5) (h0 : ¬ k = 0) (h1 : ¬ k = 1) (h2 : ¬ k = 2) (h3 : ¬ k = 3) (h4 : ¬ k = 4) : k = 5 := Classical.byContradiction (fun z => h (out5 h0 h1 h2 h3 h4 z))
section SHVS
variable {wh : Int32} {de po sd : Nat} {ct : Int32} {fpl fse : Nat → Int32}
theorem shv_0 (h : wh = 0) : SHV wh de po sd ct fpl fse = nI de := by unfold SHV; rw [if_pos h]
theorem shv_1 (h : wh = 1) : SHV wh de po sd ct fpl fse = fpl (de - 1) := by subst h; unfold SHV; rw [if_neg (by decide), if_pos rfl]
theorem shv_2 (h : wh = 2) : SHV wh de po sd ct fpl fse = fse (de - 1) := by subst h; unfold SHV; rw [if_neg (by decide), if_neg (by decide), if_pos rfl]
theorem shv_3 (h : wh = 3) : SHV wh de po sd ct fpl fse = nI po := by subst h; unfold SHV; rw [if_neg (by decide), if_neg (by decide), if_neg (by decide), if_pos rfl]
theorem shv_4 (h : wh = 4) : SHV wh de po sd ct fpl fse = ct := by subst h; unfold SHV; rw [if_neg (by decide), if_neg (by decide), if_neg (by decide), if_neg (by decide), if_pos rfl]
theorem shv_5 (h : wh = 5) : SHV wh de po sd ct fpl fse = nI sd := by subst h; unfold SHV; rw [if_neg (by decide), if_neg (by decide), if_neg (by decide), if_neg (by decide), if_neg (by decide)]
end SHVS
theorem lcmp_eq {x y : Int64} (h : x = y) : (if x > y then (1 : Int32) else if x == y then 0 else -1) = 0 := by
  subst h
  simp
