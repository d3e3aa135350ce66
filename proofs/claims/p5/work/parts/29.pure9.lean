/-! worlds that change -/
theorem ix_le {x : Int32} (n : Nat) (hn : n < 1000) (h : ¬ (x < 0 ∨ nI n < x)) : ∃ j, j ≤ n ∧ x = nI j := by
  obtain ⟨j, hj, rfl⟩ := nI_of (fun z => h (Or.inl z))
  exact ⟨j, Nat.le_of_not_lt (fun z => h (Or.inr (nI_lt z hj))), rfl⟩
theorem ON.some {x : Int32} (h : ON x) (h1 : ¬ x = -1) : ∃ q, q < 32 ∧ x = nI q := by
  rcases h with h | h
  · exact absurd h h1
  · exact h
def tot (rk : Nat → Nat) : Nat → Nat
  | 0 => 0
  | n + 1 => tot rk n + rk n
theorem tot_le {rk : Nat → Nat} {n q : Nat} (h : q < n) : rk q ≤ tot rk n := by
  induction n with
  | zero => omega
  | succ n ih =>
    show rk q ≤ tot rk n + rk n
    by_cases e : q = n
    · subst e; omega
    · have := ih (by omega); omega
/-- an object more -/
theorem WO.new {f g : Nat → Int32} {fx fx2 x n : Nat} (h : WO f fx) (hx : x < 32) (h0 : f (29 * x) ≠ 1) (hn : n ≤ 3) (hgn : g (29 * x + 1) = nI n) (hp : ∀ k, k < n → ∃ q, q < 32 ∧ g (29 * x + 2 + k) = nI q ∧ f (29 * q) = 1)
    (e : ∀ j, (∀ i, i < 29 → j ≠ 29 * x + i) → g j = f j) (h2 : ∀ o, fx2 ≤ o → o < 16 → fx ≤ o ∧ o ≠ x) : WO g fx2 := by
  obtain ⟨⟨rk, hw⟩, hno⟩ := h
  have e5 : ∀ o, o ≠ x → ∀ i, i < 29 → g (29 * o + i) = f (29 * o + i) := fun o ho i hi => e _ (fun k hk => by omega)
  have e0 : ∀ o, o ≠ x → g (29 * o) = f (29 * o) := fun o ho => e5 o ho 0 (by decide)
  refine ⟨⟨fun o => if o = x then 1 + tot rk 32 else rk o, fun o ho h1 => ?_⟩, fun o h3 h4 => ?_⟩
  · by_cases hox : o = x
    · subst hox
      refine ⟨n, hn, hgn, fun k hk => ?_⟩
      obtain ⟨q, hq, e1, hq1⟩ := hp k hk
      have hqx : q ≠ o := fun z => h0 (by rw [← z]; exact hq1)
      refine ⟨q, hq, e1, by rw [e0 q hqx]; exact hq1, ?_⟩
      simp only [if_neg hqx, if_true]
      have := tot_le (rk := rk) hq
      omega
    · rw [e0 o hox] at h1
      obtain ⟨m, hm, em, hk⟩ := hw o ho h1
      refine ⟨m, hm, by rw [e5 o hox 1 (by decide)]; exact em, fun k hkm => ?_⟩
      obtain ⟨q, hq, e1, hq1, hr⟩ := hk k hkm
      have hqx : q ≠ x := fun z => h0 (by rw [← z]; exact hq1)
      have e6 : g (29 * o + 2 + k) = f (29 * o + 2 + k) := by
        rw [show 29 * o + 2 + k = 29 * o + (2 + k) from by omega]
        exact e5 o hox (2 + k) (by omega)
      refine ⟨q, hq, by rw [e6]; exact e1, by rw [e0 q hqx]; exact hq1, ?_⟩
      simp only [if_neg hqx, if_neg hox]
      exact hr
  · obtain ⟨h5, h6⟩ := h2 o h3 h4
    rw [e0 o h6]
    exact hno o h5 h4
theorem up_far {f : Nat → Int32} {k j : Nat} {x : Int32} (h : j ≠ k) : upd f k x j = f j := pk_un h
/-- a property changed -/
theorem give_ok {f g : Nat → Int32} {fx oo p_ : Nat} (ho : oo < 32) (hp : p_ < 8) (h : WO f fx) (e : ∀ j, (∀ i, i < 3 → j ≠ 29 * oo + 5 + 3 * p_ + i) → g j = f j) : WO g fx ∧ ∀ j, 928 ≤ j → g j = f j :=
  ⟨h.own (fun o ho2 i hi => e _ (fun k hk => by rcases Nat.lt_trichotomy o oo with z | z | z <;> omega)), fun j hj => e _ (fun k hk => by omega)⟩
theorem give_far {f : Nat → Int32} {a : Nat} {x y z : Int32} : ∀ j, (∀ i, i < 3 → j ≠ a + i) → upd (upd (upd f a x) (a + 1) y) (a + 2) z j = f j := by
  intro j hj
  have h0 : j ≠ a := hj 0 (by decide)
  rw [pk_un (hj 2 (by decide)), pk_un (hj 1 (by decide)), pk_un h0]
theorem give_one {f : Nat → Int32} {a : Nat} {x : Int32} : ∀ j, (∀ i, i < 3 → j ≠ a + i) → upd f a x j = f j := fun j hj => pk_un (hj 0 (by decide))
/-- the writes of object -/
theorem obj_far {fw g : Nat → Int32} {fx : Nat} {a b c d : Int32} (h : ∀ j, (∀ i, i < 29 → j ≠ 29 * fx + i) → g j = fw j) : ∀ j, (∀ i, i < 29 → j ≠ 29 * fx + i) → upd (upd (upd (upd g (29 * fx + 1) a) (29 * fx + 2) b) (29 * fx + 3) c) (29 * fx + 4) d j = fw j := by
  intro j hj
  rw [pk_un (hj 4 (by decide)), pk_un (hj 3 (by decide)), pk_un (hj 2 (by decide)), pk_un (hj 1 (by decide))]
  exact h j hj
theorem obj_1 {g : Nat → Int32} {x : Nat} {a b c d : Int32} : upd (upd (upd (upd g (x + 1) a) (x + 2) b) (x + 3) c) (x + 4) d (x + 1) = a := by
  rw [pk_un (by omega), pk_un (by omega), pk_un (by omega), pk_us]
theorem obj_2 {g : Nat → Int32} {x : Nat} {a b c d : Int32} : upd (upd (upd (upd g (x + 1) a) (x + 2) b) (x + 3) c) (x + 4) d (x + 2 + 0) = b := by
  rw [pk_un (by omega), pk_un (by omega)]; exact pk_us
theorem obj_3 {g : Nat → Int32} {x : Nat} {a b c d : Int32} : upd (upd (upd (upd g (x + 1) a) (x + 2) b) (x + 3) c) (x + 4) d (x + 2 + 1) = c := by
  rw [pk_un (by omega)]; exact pk_us
theorem obj_4 {g : Nat → Int32} {x : Nat} {a b c d : Int32} : upd (upd (upd (upd g (x + 1) a) (x + 2) b) (x + 3) c) (x + 4) d (x + 2 + 2) = d := pk_us
theorem sv0 {f : Nat → Int32} : upd (upd f 0 0) 1 0 0 = 0 := by rw [pk_un (by decide), pk_us]
theorem sv1 {f : Nat → Int32} : upd (upd f 0 0) 1 0 1 = 0 := pk_us
/-! collecting -/
def CLM (fw : Nat → Int32) (m : Nat) (a b : Int32) : Prop := ∀ o, o < m → bt a o = true → ∀ n, n ≤ 3 → fw (29 * o + 1) = nI n → ∀ k, k < n → ∀ q, q < 32 → fw (29 * o + 2 + k) = nI q → bt b q = true
abbrev CL (fw : Nat → Int32) (a b : Int32) : Prop := CLM fw 32 a b
def PK (fw : Nat → Int32) (b : Int32) (o j : Nat) : Prop := ∀ k, k < j → ∀ q, q < 32 → fw (29 * o + 2 + k) = nI q → bt b q = true
theorem PK.le {fw : Nat → Int32} {b : Int32} {o j i : Nat} (h : PK fw b o j) (hi : i ≤ j) : PK fw b o i := fun k hk => h k (by omega)
theorem PK.step {fw : Nat → Int32} {b r : Int32} {o j : Nat} (h : PK fw b o j) (hs : SUP b r) (h1 : ∀ q, q < 32 → fw (29 * o + 2 + j) = nI q → bt r q = true) : PK fw r o (j + 1) := fun k hk q hq e => by
  by_cases e2 : k = j
  · subst e2; exact h1 q hq e
  · exact hs q hq (h k (by omega) q hq e)
theorem CLM.step {fw : Nat → Int32} {m : Nat} {a b : Int32} (h : CLM fw m a b) (h1 : bt a m = true → ∀ n, n ≤ 3 → fw (29 * m + 1) = nI n → PK fw b m n) : CLM fw (m + 1) a b := fun o ho hb n hn e k hk q hq e2 => by
  by_cases e3 : o = m
  · subst e3; exact h1 hb n hn e k hk q hq e2
  · exact h o (by omega) hb n hn e k hk q hq e2
theorem CLM.up {fw : Nat → Int32} {m : Nat} {a b c : Int32} (h : CLM fw m a b) (hs : SUP b c) : CLM fw m a c := fun o ho hb n hn e k hk q hq e2 => hs q hq (h o ho hb n hn e k hk q hq e2)
def FX (fw : Nat → Int32) (m : Nat) (a : Int32) : Prop := ∀ o, o < m → fw (29 * o) = 1 → bt a o = true
theorem FX.up {fw : Nat → Int32} {m : Nat} {a b : Int32} (h : FX fw m a) (hm : m ≤ 32) (hs : SUP a b) : FX fw m b := fun o ho h1 => hs o (by omega) (h o ho h1)
theorem FX.step {fw : Nat → Int32} {m : Nat} {a b : Int32} (h : FX fw m a) (hm : m ≤ 31) (hs : SUP a b) (h1 : fw (29 * m) = 1 → bt b m = true) : FX fw (m + 1) b := fun o ho ht => by
  by_cases e : o = m
  · subst e; exact h1 ht
  · exact hs o (by omega) (h o (by omega) ht)
theorem SUP.tr {a b c : Int32} (h : SUP a b) (h2 : SUP b c) : SUP a c := fun i hi hb => h2 i hi (h i hi hb)
/-- what mark does -/
def MD (fw : Nat → Int32) (mk what ov r : Int32) : Prop := (MK fw mk → MK fw r) ∧ SUP mk r ∧ (what = 3 → ∀ q, q < 32 → ov = nI q → fw (29 * q) = 1 → bt r q = true)
theorem MD.same {fw : Nat → Int32} {mk what ov : Int32} (h : what = 3 → ∀ q, q < 32 → ov = nI q → fw (29 * q) = 1 → False) : MD fw mk what ov mk := ⟨id, SUP.rf, fun h1 q hq e ht => (h h1 q hq e ht).elim⟩
theorem MD.more {fw : Nat → Int32} {mk what : Int32} {j : Nat} (hj : j < 32) (ht : fw (29 * j) = 1) : MD fw mk what (nI j) (mk ||| 1 <<< (nI j &&& 31)) :=
  ⟨fun h => h.add hj ht, SUP.rf.add hj, fun _ q hq e _ => by rw [b_add hj hq, (nI_eq (by omega) (by omega)).mp e]; simp⟩
def RM (fw g : Nat → Int32) (mk : Int32) (o : Nat) : Prop := (∀ j, g j = fw j ∨ ∃ x, 16 ≤ x ∧ x < 32 ∧ j = 29 * x ∧ g j = 0 ∧ bt mk x = false) ∧ ∀ x, 16 ≤ x → x < o → g (29 * x) = 1 → bt mk x = true
theorem RM.init {fw : Nat → Int32} {mk : Int32} : RM fw fw mk 16 := ⟨fun j => Or.inl rfl, fun x h1 h2 => by omega⟩
theorem RM.keep {fw g : Nat → Int32} {mk : Int32} {o : Nat} (h : RM fw g mk o) (h1 : g (29 * o) = 1 → bt mk o = true) : RM fw g mk (o + 1) := ⟨h.1, fun x hx ho hg => by
  by_cases e : x = o
  · subst e; exact h1 hg
  · exact h.2 x hx (by omega) hg⟩
theorem RM.drop {fw g : Nat → Int32} {mk : Int32} {o : Nat} (h : RM fw g mk o) (ho : 16 ≤ o) (ho2 : o < 32) (h1 : bt mk o = false) : RM fw (upd g (29 * o) 0) mk (o + 1) := by
  refine ⟨fun j => ?_, fun x hx hxo hg => ?_⟩
  · by_cases e : j = 29 * o
    · subst e; exact Or.inr ⟨o, ho, ho2, rfl, pk_us, h1⟩
    · rw [pk_un e]
      exact h.1 j
  · by_cases e : x = o
    · subst e; rw [pk_us] at hg; exact absurd hg (by decide)
    · rw [pk_un (by omega)] at hg
      exact h.2 x hx (by omega) hg
theorem RM.done {fw g : Nat → Int32} {mk : Int32} {fx : Nat} (h : RM fw g mk 32) (hw : WO fw fx) (hf : FX fw 16 mk) (hc : CL fw mk mk) : WO g fx ∧ ∀ j, 928 ≤ j → g j = fw j := by
  have same : ∀ j, (∀ x, x < 32 → j ≠ 29 * x) → g j = fw j := fun j hj => by
    rcases h.1 j with e | ⟨x, -, hx, e, -⟩
    · exact e
    · exact absurd e (hj x hx)
  have one : ∀ o, g (29 * o) = 1 → fw (29 * o) = 1 := fun o h1 => by
    rcases h.1 (29 * o) with e | ⟨x, -, -, -, e, -⟩
    · rw [← e]; exact h1
    · rw [e] at h1; exact absurd h1 (by decide)
  have stay : ∀ q, q < 32 → bt mk q = true → g (29 * q) = fw (29 * q) := fun q hq hb => by
    rcases h.1 (29 * q) with e | ⟨x, -, -, e1, -, e2⟩
    · exact e
    · have : q = x := by omega
      subst this
      rw [hb] at e2
      exact absurd e2 (by decide)
  obtain ⟨⟨rk, hp⟩, hn⟩ := hw
  refine ⟨⟨⟨rk, fun o ho h1 => ?_⟩, fun o h1 h2 h3 => hn o h1 h2 (one o h3)⟩, fun j hj => same j (fun x hx => by omega)⟩
  have ht := one o h1
  have hm : bt mk o = true := by
    by_cases h16 : o < 16
    · exact hf o h16 ht
    · exact h.2 o (by omega) ho h1
  obtain ⟨n, hn3, e1, hk⟩ := hp o ho ht
  refine ⟨n, hn3, by rw [same _ (fun x hx => by omega)]; exact e1, fun k hkn => ?_⟩
  obtain ⟨q, hq, e2, hq1, hr⟩ := hk k hkn
  exact ⟨q, hq, by rw [same _ (fun x hx => by omega)]; exact e2, by rw [stay q hq (hc o ho hm n hn3 e1 k hkn q hq e2)]; exact hq1, hr⟩
