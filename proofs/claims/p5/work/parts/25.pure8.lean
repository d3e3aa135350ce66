/-! the reference's invariant -/
def MK (fw : Nat → Int32) (mk : Int32) : Prop := ∀ q, q < 32 → bt mk q = true → fw (29 * q) = 1
theorem MK.one {fw : Nat → Int32} {o : Nat} (ho : o < 32) (h : fw (29 * o) = 1) : MK fw (1 <<< (nI o &&& 31)) := fun q hq hb => by
  rw [b_one ho hq] at hb
  rw [of_decide_eq_true hb]; exact h
theorem MK.zero {fw : Nat → Int32} : MK fw 0 := fun q _ hb => by rw [b_0] at hb; exact absurd hb (by decide)
theorem MK.add {fw : Nat → Int32} {mk : Int32} {o : Nat} (h : MK fw mk) (ho : o < 32) (h1 : fw (29 * o) = 1) : MK fw (mk ||| 1 <<< (nI o &&& 31)) := fun q hq hb => by
  rw [b_add ho hq, Bool.or_eq_true] at hb
  rcases hb with hb | hb
  · exact h q hq hb
  · rw [of_decide_eq_true hb]; exact h1
/-- an object that is there has its parents there, and a rank falls to them -/
def WP (f : Nat → Int32) (rk : Nat → Nat) : Prop := ∀ o, o < 32 → f (29 * o) = 1 → ∃ n, n ≤ 3 ∧ f (29 * o + 1) = nI n ∧ ∀ k, k < n → ∃ q, q < 32 ∧ f (29 * o + 2 + k) = nI q ∧ f (29 * q) = 1 ∧ rk q < rk o
def WO (f : Nat → Int32) (fx : Nat) : Prop := (∃ rk, WP f rk) ∧ ∀ o, fx ≤ o → o < 16 → f (29 * o) ≠ 1
theorem WO.congr {f g : Nat → Int32} {fx : Nat} (h : WO f fx) (e : ∀ j, j < 928 → g j = f j) : WO g fx := by
  obtain ⟨⟨rk, hw⟩, hn⟩ := h
  refine ⟨⟨rk, fun o ho h1 => ?_⟩, fun o h1 h2 => by rw [e _ (by omega)]; exact hn o h1 h2⟩
  rw [e _ (by omega)] at h1
  obtain ⟨n, hn3, e1, hk⟩ := hw o ho h1
  refine ⟨n, hn3, by rw [e _ (by omega)]; exact e1, fun k hkn => ?_⟩
  obtain ⟨q, hq, e2, h2, h3⟩ := hk k hkn
  exact ⟨q, hq, by rw [e _ (by omega)]; exact e2, by rw [e _ (by omega)]; exact h2, h3⟩
/-- what is its own may change -/
theorem WO.own {f g : Nat → Int32} {fx : Nat} (h : WO f fx) (e : ∀ o, o < 32 → ∀ i, i < 5 → g (29 * o + i) = f (29 * o + i)) : WO g fx := by
  obtain ⟨⟨rk, hw⟩, hn⟩ := h
  have e0 : ∀ o, o < 32 → g (29 * o) = f (29 * o) := fun o ho => e o ho 0 (by decide)
  refine ⟨⟨rk, fun o ho h1 => ?_⟩, fun o h1 h2 => by rw [e0 _ (by omega)]; exact hn o h1 h2⟩
  rw [e0 _ ho] at h1
  obtain ⟨n, hn3, e1, hk⟩ := hw o ho h1
  refine ⟨n, hn3, by rw [e _ ho 1 (by decide)]; exact e1, fun k hkn => ?_⟩
  obtain ⟨q, hq, e2, h2, h3⟩ := hk k hkn
  have e4 : g (29 * o + 2 + k) = f (29 * o + 2 + k) := by
    have := e o ho (2 + k) (by omega)
    rw [show 29 * o + 2 + k = 29 * o + (2 + k) from by omega]; exact this
  exact ⟨q, hq, by rw [e4]; exact e2, by rw [e0 _ hq]; exact h2, h3⟩
/-- all worlds that can come back -/
def WA (fw : Nat → Int32) (fx po : Nat) (fs : Nat → Int32) : Prop := WO fw fx ∧ (∀ v, 1 ≤ v → v ≤ po → WO (fun j => fw (928 * v + j)) fx) ∧ ∀ k, k < 2 → fs k ≠ 0 → WO (fun j => fw (928 * (4 + k) + j)) fx
/-- world 0 changed, the others not -/
theorem WA.zero {fw g : Nat → Int32} {fx po : Nat} {fs : Nat → Int32} (h : WA fw fx po fs) (h0 : WO g fx) (e : ∀ j, 928 ≤ j → g j = fw j) : WA g fx po fs :=
  ⟨h0, fun v h1 h2 => (h.2.1 v h1 h2).congr (fun j _ => e _ (by omega)), fun k h1 h2 => (h.2.2 k h1 h2).congr (fun j _ => e _ (by omega))⟩
theorem WA.po {fw : Nat → Int32} {fx po po2 : Nat} {fs : Nat → Int32} (h : WA fw fx po fs) (hp : po2 ≤ po) : WA fw fx po2 fs := ⟨h.1, fun v h1 h2 => h.2.1 v h1 (by omega), h.2.2⟩
/-- frames -/
def FR (fba flo fta fbe : Nat → Int32) (de he sz : Nat) : Prop := ∃ B L T Q : Nat → Nat, (∀ d, d < de → fba d = nI (B d) ∧ flo d = nI (L d) ∧ fta d = nI (T d) ∧ fbe d = nI (T d + 4 * Q d) ∧ T d + 4 * Q d ≤ sz) ∧ (∀ d, d + 1 < de → B d + L d ≤ B (d + 1)) ∧ ∀ d, d + 1 = de → B d + L d ≤ he
theorem FR.zero {fba flo fta fbe : Nat → Int32} {he sz : Nat} : FR fba flo fta fbe 0 he sz := ⟨fun _ => 0, fun _ => 0, fun _ => 0, fun _ => 0, fun d hd => absurd hd (Nat.not_lt_zero d), fun d hd => absurd hd (Nat.not_lt_zero _), fun d hd => absurd hd (by omega)⟩
theorem FR.size {fba flo fta fbe : Nat → Int32} {de he sz sz2 : Nat} (h : FR fba flo fta fbe de he sz) (hs : sz ≤ sz2) : FR fba flo fta fbe de he sz2 := by
  obtain ⟨B, L, T, Q, h1, h2, h3⟩ := h
  exact ⟨B, L, T, Q, fun d hd => by obtain ⟨a1, a2, a3, a4, a5⟩ := h1 d hd; exact ⟨a1, a2, a3, a4, by omega⟩, h2, h3⟩
/-- the topmost frame -/
theorem FR.top {fba flo fta fbe : Nat → Int32} {de he sz : Nat} (h : FR fba flo fta fbe de he sz) (hd : 1 ≤ de) : ∃ b lo, fba (de - 1) = nI b ∧ flo (de - 1) = nI lo ∧ b + lo ≤ he ∧ ∀ he2, b + lo ≤ he2 → FR fba flo fta fbe de he2 sz := by
  obtain ⟨B, L, T, Q, h1, h2, h3⟩ := h
  obtain ⟨a1, a2, -⟩ := h1 (de - 1) (by omega)
  exact ⟨B (de - 1), L (de - 1), a1, a2, h3 (de - 1) (by omega), fun he2 hh => ⟨B, L, T, Q, h1, h2, fun d hd2 => by rw [show d = de - 1 from by omega]; exact hh⟩⟩
/-- any frame: what is below it stays if it becomes the topmost -/
theorem FR.cut {fba flo fta fbe : Nat → Int32} {de he sz d : Nat} (h : FR fba flo fta fbe de he sz) (hd : d < de) (hh : he ≤ 40) : ∃ b lo t q, fba d = nI b ∧ flo d = nI lo ∧ fta d = nI t ∧ fbe d = nI (t + 4 * q) ∧ t + 4 * q ≤ sz ∧ b + lo ≤ 40 ∧ (∀ he2, b + lo ≤ he2 → FR fba flo fta fbe (d + 1) he2 sz) ∧ ∀ he2, b ≤ he2 → FR fba flo fta fbe d he2 sz := by
  obtain ⟨B, L, T, Q, h1, h2, h3⟩ := h
  have up : ∀ k, d + k < de → B d + L d ≤ B (d + k) + L (d + k) := by
    intro k
    induction k with
    | zero => intro _; exact Nat.le_refl _
    | succ k ih =>
      intro hk
      have a := ih (by omega)
      have b := h2 (d + k) (by omega)
      rw [show d + (k + 1) = d + k + 1 from by omega]
      omega
  have lim : B d + L d ≤ he := by
    have a := up (de - 1 - d) (by omega)
    have b := h3 (de - 1) (by omega)
    rw [show d + (de - 1 - d) = de - 1 from by omega] at a
    omega
  obtain ⟨a1, a2, a3, a4, a5⟩ := h1 d hd
  refine ⟨B d, L d, T d, Q d, a1, a2, a3, a4, a5, by omega, fun he2 hh2 => ⟨B, L, T, Q, fun e he => h1 e (by omega), fun e he => h2 e (by omega), fun e he => ?_⟩, fun he2 hh2 => ⟨B, L, T, Q, fun e he => h1 e (by omega), fun e he => h2 e (by omega), fun e he => ?_⟩⟩
  · obtain rfl : e = d := by omega
    exact hh2
  · have := h2 e (by omega)
    rw [he] at this
    omega
/-- a frame more -/
theorem FR.push {fba flo fta fbe : Nat → Int32} {de he sz n lo t q : Nat} (h : FR fba flo fta fbe de (he - n) sz) (hn : n ≤ he) (hq : t + 4 * q ≤ sz) : FR (upd fba de (nI (he - n))) (upd flo de (nI (n + lo))) (upd fta de (nI t)) (upd fbe de (nI (t + 4 * q))) (de + 1) (he + lo) sz := by
  obtain ⟨B, L, T, Q, h1, h2, h3⟩ := h
  refine ⟨fun d => if d = de then he - n else B d, fun d => if d = de then n + lo else L d, fun d => if d = de then t else T d, fun d => if d = de then q else Q d, fun d hd => ?_, fun d hd => ?_, fun d hd => ?_⟩
  · by_cases e : d = de
    · subst e
      simp only [if_true, pk_us]
      exact ⟨trivial, trivial, trivial, trivial, hq⟩
    · simp only [if_neg e, pk_un e]
      exact h1 d (by omega)
  · have e : ¬ d = de := by omega
    simp only [if_neg e]
    by_cases e2 : d + 1 = de
    · simp only [if_pos e2]
      exact h3 d e2
    · simp only [if_neg e2]
      exact h2 d (by omega)
  · have e : d = de := by omega
    subst e
    simp only [if_true]
    omega
def RI (sz fx po he de sd : Nat) (en : Int32) (fb fw fs fba flo fta fbe : Nat → Int32) : Prop :=
  (sz ≤ 300) ∧ (BY fb) ∧ (fx ≤ 16) ∧ (po ≤ 3) ∧ (he ≤ 40) ∧ (de ≤ 8) ∧ (sd ≤ 50) ∧ (en = 0 → 1 ≤ de) ∧ (¬ en = 0 → po = 0) ∧ (WA fw fx po fs) ∧ (FR fba flo fta fbe de he sz)
theorem RI.hsz {sz fx po he de sd : Nat} {en : Int32} {fb fw fs fba flo fta fbe : Nat → Int32} (h : RI sz fx po he de sd en fb fw fs fba flo fta fbe) : sz ≤ 300 := h.1
theorem RI.by_ {sz fx po he de sd : Nat} {en : Int32} {fb fw fs fba flo fta fbe : Nat → Int32} (h : RI sz fx po he de sd en fb fw fs fba flo fta fbe) : BY fb := h.2.1
theorem RI.hfx {sz fx po he de sd : Nat} {en : Int32} {fb fw fs fba flo fta fbe : Nat → Int32} (h : RI sz fx po he de sd en fb fw fs fba flo fta fbe) : fx ≤ 16 := h.2.2.1
theorem RI.hpo {sz fx po he de sd : Nat} {en : Int32} {fb fw fs fba flo fta fbe : Nat → Int32} (h : RI sz fx po he de sd en fb fw fs fba flo fta fbe) : po ≤ 3 := h.2.2.2.1
theorem RI.hhe {sz fx po he de sd : Nat} {en : Int32} {fb fw fs fba flo fta fbe : Nat → Int32} (h : RI sz fx po he de sd en fb fw fs fba flo fta fbe) : he ≤ 40 := h.2.2.2.2.1
theorem RI.hde {sz fx po he de sd : Nat} {en : Int32} {fb fw fs fba flo fta fbe : Nat → Int32} (h : RI sz fx po he de sd en fb fw fs fba flo fta fbe) : de ≤ 8 := h.2.2.2.2.2.1
theorem RI.hsd {sz fx po he de sd : Nat} {en : Int32} {fb fw fs fba flo fta fbe : Nat → Int32} (h : RI sz fx po he de sd en fb fw fs fba flo fta fbe) : sd ≤ 50 := h.2.2.2.2.2.2.1
theorem RI.run {sz fx po he de sd : Nat} {en : Int32} {fb fw fs fba flo fta fbe : Nat → Int32} (h : RI sz fx po he de sd en fb fw fs fba flo fta fbe) : en = 0 → 1 ≤ de := h.2.2.2.2.2.2.2.1
theorem RI.idle {sz fx po he de sd : Nat} {en : Int32} {fb fw fs fba flo fta fbe : Nat → Int32} (h : RI sz fx po he de sd en fb fw fs fba flo fta fbe) : ¬ en = 0 → po = 0 := h.2.2.2.2.2.2.2.2.1
theorem RI.wa {sz fx po he de sd : Nat} {en : Int32} {fb fw fs fba flo fta fbe : Nat → Int32} (h : RI sz fx po he de sd en fb fw fs fba flo fta fbe) : WA fw fx po fs := h.2.2.2.2.2.2.2.2.2.1
theorem RI.fr {sz fx po he de sd : Nat} {en : Int32} {fb fw fs fba flo fta fbe : Nat → Int32} (h : RI sz fx po he de sd en fb fw fs fba flo fta fbe) : FR fba flo fta fbe de he sz := h.2.2.2.2.2.2.2.2.2.2
theorem RI.mk {sz fx po he de sd : Nat} {en : Int32} {fb fw fs fba flo fta fbe : Nat → Int32} (hsz : sz ≤ 300) (by_ : BY fb) (hfx : fx ≤ 16) (hpo : po ≤ 3) (hhe : he ≤ 40) (hde : de ≤ 8) (hsd : sd ≤ 50) (run : en = 0 → 1 ≤ de) (idle : ¬ en = 0 → po = 0) (wa : WA fw fx po fs) (fr : FR fba flo fta fbe de he sz) : RI sz fx po he de sd en fb fw fs fba flo fta fbe := ⟨hsz, by_, hfx, hpo, hhe, hde, hsd, run, idle, wa, fr⟩
/-! findLine -/
def updN (K : Nat → Nat) (i v : Nat) : Nat → Nat := fun j => if j = i then v else K j
theorem updN_s {K : Nat → Nat} {i v : Nat} : updN K i v i = v := if_pos rfl
theorem updN_n {K : Nat → Nat} {i v j : Nat} (h : j ≠ i) : updN K i v j = K j := if_neg h
def sm (K : Nat → Nat) : Nat → Nat
  | 0 => 0
  | n + 1 => sm K n + (K n + 1)
theorem sm_congr {K L : Nat → Nat} {n : Nat} (h : ∀ i, i < n → K i = L i) : sm K n = sm L n := by
  induction n with
  | zero => rfl
  | succ n ih => show sm K n + _ = sm L n + _; rw [ih (fun i hi => h i (by omega)), h n (by omega)]
def FLI (fw : Nat → Int32) (rk : Nat → Nat) (fwa fnp fm fl : Nat → Int32) (n le : Nat) (X K : Nat → Nat) (s : Nat → Bool) (M : Nat) : Prop :=
  (∀ i, i < n → X i < 32 ∧ fwa i = nI (X i) ∧ fw (29 * X i) = 1) ∧ (∀ i, i < n → fnp i = nI (K i) - 1 ∧ ∃ c, c ≤ 3 ∧ fw (29 * X i + 1) = nI c ∧ K i ≤ c) ∧ (∀ i j, i < j → j < n → rk (X j) < rk (X i)) ∧ (le + n = cnt s 32) ∧ (∀ i, i < n → s (X i) = true) ∧ (∀ q, q < 32 → s q = true → fm q = 0 → ∃ i, i < n ∧ X i = q) ∧ (ROW fl le) ∧ (M = 5 * (32 - (le + n)) + sm K n)
theorem FLI.xw {fw : Nat → Int32} {rk : Nat → Nat} {fwa fnp fm fl : Nat → Int32} {n le : Nat} {X K : Nat → Nat} {s : Nat → Bool} {M : Nat} (h : FLI fw rk fwa fnp fm fl n le X K s M) : ∀ i, i < n → X i < 32 ∧ fwa i = nI (X i) ∧ fw (29 * X i) = 1 := h.1
theorem FLI.kn {fw : Nat → Int32} {rk : Nat → Nat} {fwa fnp fm fl : Nat → Int32} {n le : Nat} {X K : Nat → Nat} {s : Nat → Bool} {M : Nat} (h : FLI fw rk fwa fnp fm fl n le X K s M) : ∀ i, i < n → fnp i = nI (K i) - 1 ∧ ∃ c, c ≤ 3 ∧ fw (29 * X i + 1) = nI c ∧ K i ≤ c := h.2.1
theorem FLI.de {fw : Nat → Int32} {rk : Nat → Nat} {fwa fnp fm fl : Nat → Int32} {n le : Nat} {X K : Nat → Nat} {s : Nat → Bool} {M : Nat} (h : FLI fw rk fwa fnp fm fl n le X K s M) : ∀ i j, i < j → j < n → rk (X j) < rk (X i) := h.2.2.1
theorem FLI.cn {fw : Nat → Int32} {rk : Nat → Nat} {fwa fnp fm fl : Nat → Int32} {n le : Nat} {X K : Nat → Nat} {s : Nat → Bool} {M : Nat} (h : FLI fw rk fwa fnp fm fl n le X K s M) : le + n = cnt s 32 := h.2.2.2.1
theorem FLI.sx {fw : Nat → Int32} {rk : Nat → Nat} {fwa fnp fm fl : Nat → Int32} {n le : Nat} {X K : Nat → Nat} {s : Nat → Bool} {M : Nat} (h : FLI fw rk fwa fnp fm fl n le X K s M) : ∀ i, i < n → s (X i) = true := h.2.2.2.2.1
theorem FLI.ss {fw : Nat → Int32} {rk : Nat → Nat} {fwa fnp fm fl : Nat → Int32} {n le : Nat} {X K : Nat → Nat} {s : Nat → Bool} {M : Nat} (h : FLI fw rk fwa fnp fm fl n le X K s M) : ∀ q, q < 32 → s q = true → fm q = 0 → ∃ i, i < n ∧ X i = q := h.2.2.2.2.2.1
theorem FLI.ro {fw : Nat → Int32} {rk : Nat → Nat} {fwa fnp fm fl : Nat → Int32} {n le : Nat} {X K : Nat → Nat} {s : Nat → Bool} {M : Nat} (h : FLI fw rk fwa fnp fm fl n le X K s M) : ROW fl le := h.2.2.2.2.2.2.1
theorem FLI.me {fw : Nat → Int32} {rk : Nat → Nat} {fwa fnp fm fl : Nat → Int32} {n le : Nat} {X K : Nat → Nat} {s : Nat → Bool} {M : Nat} (h : FLI fw rk fwa fnp fm fl n le X K s M) : M = 5 * (32 - (le + n)) + sm K n := h.2.2.2.2.2.2.2
theorem FLI.mk {fw : Nat → Int32} {rk : Nat → Nat} {fwa fnp fm fl : Nat → Int32} {n le : Nat} {X K : Nat → Nat} {s : Nat → Bool} {M : Nat} (xw : ∀ i, i < n → X i < 32 ∧ fwa i = nI (X i) ∧ fw (29 * X i) = 1) (kn : ∀ i, i < n → fnp i = nI (K i) - 1 ∧ ∃ c, c ≤ 3 ∧ fw (29 * X i + 1) = nI c ∧ K i ≤ c) (de : ∀ i j, i < j → j < n → rk (X j) < rk (X i)) (cn : le + n = cnt s 32) (sx : ∀ i, i < n → s (X i) = true) (ss : ∀ q, q < 32 → s q = true → fm q = 0 → ∃ i, i < n ∧ X i = q) (ro : ROW fl le) (me : M = 5 * (32 - (le + n)) + sm K n) : FLI fw rk fwa fnp fm fl n le X K s M := ⟨xw, kn, de, cn, sx, ss, ro, me⟩
theorem cnt_one {o : Nat} (ho : o < 32) : cnt (fun i => decide (i = o)) 32 = 1 := by
  have h0 : cnt (fun _ => false) 32 = 0 := by decide
  have h := cnt_add (s := fun _ => false) (t := fun i => decide (i = o)) ho rfl (by simp) (fun i _ hi => by simp [hi])
  rw [h0] at h
  exact h
theorem FLI.init {fw fwa fnp fm fl : Nat → Int32} {rk : Nat → Nat} {o c : Nat} (ho : o < 32) (h1 : fw (29 * o) = 1) (hc : c ≤ 3) (h2 : fw (29 * o + 1) = nI c) : FLI fw rk (upd fwa 0 (nI o)) (upd fnp 0 (nI c - 1)) fm fl 1 0 (fun _ => o) (fun _ => c) (fun i => decide (i = o)) (5 * (32 - (0 + 1)) + sm (fun _ => c) 1) := by
  refine FLI.mk ?_ ?_ ?_ ?_ ?_ ?_ ?_ ?_
  · intro i hi; obtain rfl : i = 0 := by omega
    exact ⟨ho, pk_us, h1⟩
  · intro i hi; obtain rfl : i = 0 := by omega
    exact ⟨pk_us, c, hc, h2, Nat.le_refl c⟩
  · intro i j h1 h2; omega
  · rw [cnt_one ho]
  · intro i _; simp
  · intro q _ hs _; exact ⟨0, by omega, (of_decide_eq_true hs).symm⟩
  · intro i hi; exact absurd hi (Nat.not_lt_zero i)
  · rfl
theorem FLI.pop {fw fwa fnp fm fl : Nat → Int32} {rk : Nat → Nat} {n le M : Nat} {X K : Nat → Nat} {s : Nat → Bool} (h : FLI fw rk fwa fnp fm fl n le X K s M) (hn : 1 ≤ n) (h0 : K (n - 1) = 0) : (le < 32 ∧ M - 1 < M) ∧ FLI fw rk fwa fnp (upd fm (X (n - 1)) 1) (upd fl le (nI (X (n - 1)))) (n - 1) (le + 1) X K s (M - 1) := by
  have hc := cnt_le s 32
  have e1 := h.cn
  have e2 := h.me
  have e3 : sm K n = sm K (n - 1) + (K (n - 1) + 1) := by
    cases n with
    | zero => omega
    | succ n => rfl
  refine ⟨⟨by omega, by omega⟩, ?_⟩
  refine FLI.mk ?_ ?_ ?_ ?_ ?_ ?_ ?_ ?_
  · exact fun i hi => h.xw i (by omega)
  · exact fun i hi => h.kn i (by omega)
  · exact fun i j h1 h2 => h.de i j h1 (by omega)
  · exact by omega
  · exact fun i hi => h.sx i (by omega)
  · exact fun q hq hs hm => by
      by_cases hqx : q = X (n - 1)
      · rw [hqx, pk_us] at hm; exact absurd hm (by decide)
      · rw [pk_un hqx] at hm
        obtain ⟨i, hi, hx⟩ := h.ss q hq hs hm
        refine ⟨i, ?_, hx⟩
        have : i ≠ n - 1 := fun z => hqx (by rw [← hx, z])
        omega
  · exact h.ro.up (h.xw (n - 1) (by omega)).1
  · exact by rw [e3, h0] at e2; omega
theorem FLI.down {fw fwa fnp fm fl : Nat → Int32} {rk : Nat → Nat} {n le M : Nat} {X K : Nat → Nat} {s : Nat → Bool} (h : FLI fw rk fwa fnp fm fl n le X K s M) (hn : 1 ≤ n) (h0 : 1 ≤ K (n - 1)) : M - 1 < M ∧ FLI fw rk fwa (upd fnp (n - 1) (nI (K (n - 1) - 1) - 1)) fm fl n le X (updN K (n - 1) (K (n - 1) - 1)) s (M - 1) := by
  have e2 := h.me
  have e3 : sm K n = sm K (n - 1) + (K (n - 1) + 1) := by
    cases n with
    | zero => omega
    | succ n => rfl
  have e4 : sm (updN K (n - 1) (K (n - 1) - 1)) n = sm K (n - 1) + (K (n - 1) - 1 + 1) := by
    have : sm (updN K (n - 1) (K (n - 1) - 1)) n = sm (updN K (n - 1) (K (n - 1) - 1)) (n - 1) + (updN K (n - 1) (K (n - 1) - 1) (n - 1) + 1) := by
      cases n with
      | zero => omega
      | succ n => rfl
    rw [this, updN_s, sm_congr (fun i hi => updN_n (by omega))]
  refine ⟨by omega, ?_⟩
  refine FLI.mk ?_ ?_ ?_ ?_ ?_ ?_ ?_ ?_
  · exact h.xw
  · exact fun i hi => by
      by_cases hin : i = n - 1
      · subst hin
        rw [pk_us, updN_s]
        obtain ⟨-, c, hc, e, hk⟩ := h.kn (n - 1) hi
        exact ⟨rfl, c, hc, e, by omega⟩
      · rw [pk_un hin, updN_n hin]
        exact h.kn i hi
  · exact h.de
  · exact h.cn
  · exact h.sx
  · exact h.ss
  · exact h.ro
  · exact by rw [e4]; omega
theorem FLI.push {fw fwa fnp fm fl : Nat → Int32} {rk : Nat → Nat} {n le M q c : Nat} {X K : Nat → Nat} {s : Nat → Bool} (h : FLI fw rk fwa fnp fm fl n le X K s M) (hn : 1 ≤ n) (hq : q < 32) (h1 : fw (29 * q) = 1) (hc : c ≤ 3) (h2 : fw (29 * q + 1) = nI c) (hr : rk q < rk (X (n - 1))) (hm : fm q = 0) : (n < 32 ∧ M - 1 < M) ∧ FLI fw rk (upd fwa n (nI q)) (upd fnp n (nI c - 1)) fm fl (n + 1) le (updN X n q) (updN K n c) (fun i => s i || decide (i = q)) (M - 1 + c - 3) ∧ M - 1 + c - 3 < M := by
  have hs : s q = false := by
    cases hs : s q
    · rfl
    · obtain ⟨i, hi, hx⟩ := h.ss q hq hs hm
      exfalso
      by_cases hin : i = n - 1
      · rw [hin] at hx; rw [hx] at hr; omega
      · have := h.de i (n - 1) (by omega) (by omega)
        rw [hx] at this
        omega
  have e1 := h.cn
  have hc2 : cnt (fun i => s i || decide (i = q)) 32 = cnt s 32 + 1 := cnt_add hq hs (by simp) (fun i _ hi => by simp [hi])
  have hc3 := cnt_le (fun i => s i || decide (i = q)) 32
  have e2 := h.me
  have e3 : sm (updN K n c) (n + 1) = sm K n + (c + 1) := by
    show sm (updN K n c) n + (updN K n c n + 1) = _
    rw [updN_s, sm_congr (fun i hi => updN_n (by omega))]
  refine ⟨⟨by omega, by omega⟩, ?_, by omega⟩
  refine FLI.mk ?_ ?_ ?_ ?_ ?_ ?_ ?_ ?_
  · exact fun i hi => by
      by_cases hin : i = n
      · subst hin; rw [updN_s, pk_us]; exact ⟨hq, rfl, h1⟩
      · rw [updN_n hin, pk_un hin]; exact h.xw i (by omega)
  · exact fun i hi => by
      by_cases hin : i = n
      · subst hin; rw [updN_s, updN_s, pk_us]; exact ⟨rfl, c, hc, h2, Nat.le_refl c⟩
      · rw [updN_n hin, updN_n hin, pk_un hin]; exact h.kn i (by omega)
  · exact fun i j hij hj => by
      by_cases hjn : j = n
      · subst hjn
        rw [updN_s, updN_n (by omega)]
        by_cases hin : i = j - 1
        · rw [hin]; exact hr
        · have := h.de i (j - 1) (by omega) (by omega); omega
      · rw [updN_n hjn, updN_n (by omega)]; exact h.de i j hij (by omega)
  · exact by rw [hc2]; omega
  · exact fun i hi => by
      by_cases hin : i = n
      · subst hin; rw [updN_s]; simp
      · rw [updN_n hin, h.sx i (by omega)]; rfl
  · exact fun r hr2 hs2 hm2 => by
      rw [Bool.or_eq_true] at hs2
      rcases hs2 with hs2 | hs2
      · obtain ⟨i, hi, hx⟩ := h.ss r hr2 hs2 hm2
        exact ⟨i, by omega, by rw [updN_n (by omega)]; exact hx⟩
      · exact ⟨n, by omega, by rw [updN_s]; exact (of_decide_eq_true hs2).symm⟩
  · exact h.ro
  · exact by rw [e3]; omega
theorem FLI.par {fw fwa fnp fm fl : Nat → Int32} {rk : Nat → Nat} {n le M : Nat} {X K : Nat → Nat} {s : Nat → Bool} (h : FLI fw rk fwa fnp fm fl n le X K s M) (hw : WP fw rk) (hn : 1 ≤ n) (h0 : 1 ≤ K (n - 1)) : ∃ q c, q < 32 ∧ fw (29 * X (n - 1) + 2 + (K (n - 1) - 1)) = nI q ∧ fw (29 * q) = 1 ∧ rk q < rk (X (n - 1)) ∧ K (n - 1) ≤ 3 ∧ c ≤ 3 ∧ fw (29 * q + 1) = nI c := by
  obtain ⟨hx, -, ht⟩ := h.xw (n - 1) (by omega)
  obtain ⟨-, c, hc, e, hk⟩ := h.kn (n - 1) (by omega)
  obtain ⟨m, hm, e2, hp⟩ := hw _ hx ht
  have : c = m := (nI_eq (by omega) (by omega)).mp (e.symm.trans e2)
  subst this
  obtain ⟨q, hq, eq, hqt, hr⟩ := hp (K (n - 1) - 1) (by omega)
  obtain ⟨c2, hc2, e3, -⟩ := hw q hq hqt
  exact ⟨q, c2, hq, eq, hqt, hr, by omega, hc2, e3⟩
