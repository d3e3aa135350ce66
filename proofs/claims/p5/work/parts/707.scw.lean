/-! the class's world against the reference's -/
def rowl (g : Nat → Int32) (i m : Nat) : List Nat := (List.range m).map (fun k => (g (i * 16 + k)).toNatClampNeg)
def CW (f : Nat → Int32) (fx : Nat) (ffl ffn fpa : Nat → Int32) : Prop :=
  (∃ rk, WP f rk) ∧ fx ≤ 16 ∧ (∀ i, i < fx → f (29 * i) = 1 ∧ ∃ m, m ≤ i + 1 ∧ ffn i = nI m ∧ rowl ffl i m = (LNE f i).reverse) ∧ (∀ o, fx ≤ o → o < 16 → ¬ f (29 * o) = 1) ∧
    ∀ o, 16 ≤ o → o < 32 → ON (fpa (o - 16)) ∧ (f (29 * o) = 1 ↔ ¬ fpa (o - 16) = -1) ∧ (f (29 * o) = 1 → pnN f o = 1 ∧ fpa (o - 16) = nI (pqN f o 0))
theorem cnt_of {l : List Nat} (hn : l.Nodup) (h : ∀ x, x ∈ l → x < 32) : cnt (fun i => decide (i ∈ l)) 32 = l.length := by
  induction l with
  | nil => exact Nat.eq_zero_of_le_zero (by have z := cnt_mono (s := fun i => decide (i ∈ ([] : List Nat))) (t := fun _ => false) (n := 32) (fun i _ hi => by simp at hi); have z2 : cnt (fun _ => false) 32 = 0 := (by decide); omega)
  | cons x l ih =>
    rw [List.nodup_cons] at hn
    have h1 := ih hn.2 (fun y hy => h y (List.mem_cons_of_mem _ hy))
    have h2 := cnt_add (s := fun i => decide (i ∈ l)) (t := fun i => decide (i ∈ x :: l)) (n := 32) (o := x) (h x List.mem_cons_self) (by simpa using hn.1) (by simp) (fun i _ hi => by simp [hi])
    rw [h2, h1]
    rfl
theorem len16 {l : List Nat} (hn : l.Nodup) (h : ∀ x, x ∈ l → 16 ≤ x ∧ x < 32) : l.length ≤ 16 := by
  rw [← cnt_of hn (fun x hx => (h x hx).2)]
  have z := cnt_mono (s := fun i => decide (i ∈ l)) (t := fun i => decide (16 ≤ i)) (n := 32) (fun i _ hi => decide_eq_true (h i (of_decide_eq_true hi)).1)
  have z2 : cnt (fun i => decide (16 ≤ i)) 32 = 16 := by decide
  omega
theorem nd_rev {l : List Nat} (h : l.Nodup) : l.reverse.Nodup := by
  unfold List.Nodup
  rw [List.pairwise_reverse]
  exact List.Pairwise.imp (fun h => Ne.symm h) h
def LAYP (f : Nat → Int32) (o : Nat) (av : Int32) (g : Nat → Int32) (k : Nat) : Prop := ∃ a, av = nI a ∧ a < 32 ∧ f (29 * a) = 1 ∧ (∀ x, x ∈ lst g k → 16 ≤ x ∧ x < 32) ∧ lst g k ++ (LNE f a).reverse = (LNE f o).reverse
theorem LAYP.init {f g : Nat → Int32} {o : Nat} (ho : o < 32) (h1 : f (29 * o) = 1) : LAYP f o (nI o) g 0 := ⟨o, rfl, ho, h1, fun x hx => absurd hx List.not_mem_nil, rfl⟩
theorem LAYP.step {f ffl ffn fpa g : Nat → Int32} {fx o a k : Nat} (hc : CW f fx ffl ffn fpa) (h : LAYP f o (nI a) g k) (h16 : 16 ≤ a) (ha : a < 32) : LAYP f o (fpa (a - 16)) (upd g k (nI a)) (k + 1) := by
  obtain ⟨b, eb, hb, ht, hx, hl⟩ := h
  obtain rfl : a = b := (nI_eq (by omega) (by omega)).mp eb
  obtain ⟨⟨rk, hw⟩, -, -, -, hm⟩ := hc
  obtain ⟨-, -, hp⟩ := hm a h16 ha
  obtain ⟨hn, ep⟩ := hp ht
  obtain ⟨-, -, hq⟩ := hw.par ha ht
  obtain ⟨q1, -, q2, -⟩ := hq 0 (by omega)
  refine ⟨pqN f a 0, ep, q1, q2, fun x hx2 => ?_, ?_⟩
  · rw [lst_up ha] at hx2
    rcases List.mem_append.mp hx2 with z | z
    · exact hx x z
    · rw [List.mem_singleton.mp z]; exact ⟨h16, ha⟩
  · rw [lst_up ha, ← hl, LNE_one hw ha ht hn, List.reverse_append, List.append_assoc]
    rfl
theorem LAYP.low {f ffl ffn fpa g : Nat → Int32} {fx o k : Nat} {av : Int32} (hc : CW f fx ffl ffn fpa) (ho : o < 32) (h1 : f (29 * o) = 1) (h : LAYP f o av g k) (hk : k = 16 ∨ av < 16) : ∃ a, av = nI a ∧ a < fx ∧ lst g k ++ (LNE f a).reverse = (LNE f o).reverse := by
  obtain ⟨a, ea, ha, ht, hx, hl⟩ := h
  refine ⟨a, ea, ?_, hl⟩
  obtain ⟨⟨rk, hw⟩, hfx, -, hno, -⟩ := hc
  have h16 : a < 16 := by
    rcases hk with rfl | hk
    · rcases Nat.lt_or_ge a 16 with z | z
      · exact z
      · exfalso
        have hnd := nd_rev (LNE_nodup hw ho h1)
        rw [← hl] at hnd
        have hin : a ∈ (LNE f a).reverse := List.mem_reverse.mpr (LNE_closed hw ha ht).2
        rw [List.nodup_append] at hnd
        have hnd2 : (lst g 16 ++ [a]).Nodup := by
          rw [List.nodup_append]
          refine ⟨hnd.1, by simp, fun x hx2 y hy => ?_⟩
          rw [List.mem_singleton.mp hy]
          exact hnd.2.2 x hx2 a hin
        have hlen := len16 hnd2 (fun x hx2 => by
          rcases List.mem_append.mp hx2 with y | y
          · exact hx x y
          · rw [List.mem_singleton.mp y]; exact ⟨z, ha⟩)
        simp [lst] at hlen
    · rw [ea] at hk
      exact (nI_ltI (a := a) (b := 16) (by omega) (by decide)).mp hk
  rcases Nat.lt_or_ge a fx with z | z
  · exact z
  · exact absurd ht (hno a z h16)
theorem lst_cpy {ffl g : Nat → Int32} {a k m : Nat} (hm : m ≤ 16) : lst (va_cpy ffl g (a * 16) k m) (k + m) = lst g k ++ rowl ffl a m := by
  unfold lst rowl
  rw [List.range_add, List.map_append, List.map_map]
  congr 1
  · refine List.map_congr_left (fun i hi => ?_)
    rw [pk_cpy_out (Or.inl (List.mem_range.mp hi))]
  · refine List.map_congr_left (fun i hi => ?_)
    show (va_cpy ffl g (a * 16) k m (k + i)).toNatClampNeg = _
    rw [pk_cpy_in (by omega) (by have := List.mem_range.mp hi; omega)]
    congr 2
    omega
