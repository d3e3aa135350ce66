/-! worlds: what changes one, and what doesn't reach it -/
theorem remV_congr2 {v w : List Nat → Nat → List Nat} {f g : Nat → Int32} {x : Nat} : ∀ (k : Nat) (acc : List Nat), (∀ i, i < k → pqN g x i = pqN f x i) → (∀ i, i < k → ∀ a, v a (pqN f x i) = w a (pqN f x i)) → remV v g x k acc = remV w f x k acc := by
  intro k
  induction k with
  | zero => intro acc _ _; rfl
  | succ k ih =>
    intro acc hq h
    show remV v g x k (v acc (pqN g x k)) = remV w f x k (w acc (pqN f x k))
    rw [hq k (by omega), h k (by omega) acc]
    exact ih _ (fun i hi => hq i (by omega)) (fun i hi a => h i (by omega) a)
/-- the same parents of what is there -/
def SPT (f g : Nat → Int32) : Prop := ∀ o, o < 32 → f (29 * o) = 1 → ∀ i, i < 5 → g (29 * o + i) = f (29 * o + i)
theorem SPT.pn {f g : Nat → Int32} (h : SPT f g) {o : Nat} (ho : o < 32) (h1 : f (29 * o) = 1) : pnN g o = pnN f o := by unfold pnN; rw [h o ho h1 1 (by decide)]
theorem SPT.pq {f g : Nat → Int32} (h : SPT f g) {o k : Nat} (ho : o < 32) (h1 : f (29 * o) = 1) (hk : k < 3) : pqN g o k = pqN f o k := by
  unfold pqN
  have := h o ho h1 (2 + k) (by omega)
  rw [show 29 * o + (2 + k) = 29 * o + 2 + k from by omega] at this
  rw [this]
theorem vis_spt {f g : Nat → Int32} {rk : Nat → Nat} (hw : WP f rk) (h : SPT f g) : ∀ (d o : Nat) (acc : List Nat), o < 32 → f (29 * o) = 1 → vis g d acc o = vis f d acc o := by
  intro d
  induction d with
  | zero => intro o acc _ _; rfl
  | succ d ih =>
    intro o acc ho h1
    show (if o ∈ acc then acc else remV (vis g d) g o (pnN g o) acc) = (if o ∈ acc then acc else remV (vis f d) f o (pnN f o) acc)
    obtain ⟨hn, -, hp⟩ := hw.par ho h1
    rw [h.pn ho h1, remV_congr2 (v := vis g d) (w := vis f d) (f := f) (g := g) (pnN f o) acc (fun i hi => h.pq ho h1 (by omega)) (fun i hi a => ?_)]
    obtain ⟨hq, -, hq1, -⟩ := hp i hi
    exact ih _ a hq hq1
theorem LNE_spt {f g : Nat → Int32} {rk : Nat → Nat} (hw : WP f rk) (h : SPT f g) {o : Nat} (ho : o < 32) (h1 : f (29 * o) = 1) : LNE g o = LNE f o := vis_spt hw h 33 o [] ho h1
theorem CW.own {f g ffl ffn fpa : Nat → Int32} {fx : Nat} (h : CW f fx ffl ffn fpa) (e : ∀ o, o < 32 → ∀ i, i < 5 → g (29 * o + i) = f (29 * o + i)) : CW g fx ffl ffn fpa := by
  obtain ⟨⟨rk, hw⟩, hfx, hlo, hno, hm⟩ := h
  have hs : SPT f g := fun o ho _ => e o ho
  have e0 : ∀ o, o < 32 → g (29 * o) = f (29 * o) := fun o ho => e o ho 0 (by decide)
  have hO : WO f fx := ⟨⟨rk, hw⟩, fun o h1 h2 => hno o h1 h2⟩
  refine ⟨(hO.own e).1, hfx, fun i hi => ?_, fun o h1 h2 => ?_, fun o h1 h2 => ?_⟩
  · obtain ⟨h1, m, h2, h3, h4⟩ := hlo i hi
    exact ⟨(e0 i (by omega)).trans h1, m, h2, h3, by rw [LNE_spt hw hs (by omega) h1]; exact h4⟩
  · rw [e0 o (by omega)]; exact hno o h1 h2
  · obtain ⟨a1, a2, a3⟩ := hm o h1 h2
    refine ⟨a1, by rw [e0 o h2]; exact a2, fun z => ?_⟩
    rw [e0 o h2] at z
    rw [hs.pn h2 z, hs.pq h2 z (by decide)]
    exact a3 z
theorem OWN.congr {f g fkd fit : Nat → Int32} (h : OWN f fkd fit) (e : ∀ o, o < 32 → ∀ i, 5 ≤ i → i < 29 → g (29 * o + i) = f (29 * o + i)) : OWN g fkd fit := fun o ho p hp => by
  have e0 := e o ho (5 + 3 * p) (by omega) (by omega)
  have e1 := e o ho (5 + 3 * p + 1) (by omega) (by omega)
  have e2 := e o ho (5 + 3 * p + 2) (by omega) (by omega)
  rw [show 29 * o + (5 + 3 * p) = 29 * o + 5 + 3 * p from by omega] at e0
  rw [show 29 * o + (5 + 3 * p + 1) = 29 * o + 5 + 3 * p + 1 from by omega] at e1
  rw [show 29 * o + (5 + 3 * p + 2) = 29 * o + 5 + 3 * p + 2 from by omega] at e2
  rw [e0, e1, e2]
  exact h o ho p hp
theorem UNM.congr {f g : Nat → Int32} {fx : Nat} (h : UNM f fx) (e : ∀ o, o < 32 → ∀ i, 5 ≤ i → i < 29 → g (29 * o + i) = f (29 * o + i)) : UNM g fx := fun o h1 h2 p hp => by
  have e0 := e o (by omega) (5 + 3 * p) (by omega) (by omega)
  rw [show 29 * o + (5 + 3 * p) = 29 * o + 5 + 3 * p from by omega] at e0
  rw [e0]
  exact h o h1 h2 p hp
theorem WR.congr {f g ffl ffn fkd fit fpa : Nat → Int32} {fx : Nat} (h : WR f fx ffl ffn fkd fit fpa) (e : ∀ j, j < 928 → g j = f j) : WR g fx ffl ffn fkd fit fpa :=
  ⟨h.1.own (fun o ho i hi => e _ (by omega)), h.2.1.congr (fun o ho i h1 h2 => e _ (by omega)), h.2.2.congr (fun o ho i h1 h2 => e _ (by omega))⟩
theorem tvn {k v : Int32} (h : k < 2 → v = 0) : tv k (nrm k v) = tv k v := by rw [nrm_id h]
theorem nrm0 {k v : Int32} (h : k < 2) : nrm k v = 0 := if_pos h
theorem GIVE_far {f : Nat → Int32} {o p : Nat} {k v : Int32} : ∀ j, (∀ i, i < 3 → j ≠ 29 * o + 5 + 3 * p + i) → GIVE f o p k v j = f j := give_far
theorem GIVE_0 {f : Nat → Int32} {o p : Nat} {k v : Int32} : GIVE f o p k v (29 * o + 5 + 3 * p) = 1 := by
  unfold GIVE; rw [pk_un (by omega), pk_un (by omega), pk_us]
theorem GIVE_1 {f : Nat → Int32} {o p : Nat} {k v : Int32} : GIVE f o p k v (29 * o + 5 + 3 * p + 1) = k := by
  unfold GIVE; rw [pk_un (by omega), pk_us]
theorem GIVE_2 {f : Nat → Int32} {o p : Nat} {k v : Int32} : GIVE f o p k v (29 * o + 5 + 3 * p + 2) = nrm k v := by
  unfold GIVE; rw [pk_us]
/-- one own value changed in both -/
theorem OWN.one {f g fkd fit : Nat → Int32} {o p : Nat} {k x : Int32} (h : OWN f fkd fit) (hp : p < 8) (e : ∀ j, (∀ i, i < 3 → j ≠ 29 * o + 5 + 3 * p + i) → g j = f j)
    (h1 : g (29 * o + 5 + 3 * p) = 1 → k = g (29 * o + 5 + 3 * p + 1) ∧ x = tv (g (29 * o + 5 + 3 * p + 1)) (g (29 * o + 5 + 3 * p + 2)) ∧ ¬ g (29 * o + 5 + 3 * p + 1) = -1 ∧ (g (29 * o + 5 + 3 * p + 1) < 2 → g (29 * o + 5 + 3 * p + 2) = 0))
    (h2 : ¬ g (29 * o + 5 + 3 * p) = 1 → k = -1) : OWN g (upd fkd (o * 8 + p) k) (upd fit (o * 8 + p) x) := fun a ha q hq => by
  by_cases ea : a = o ∧ q = p
  · obtain ⟨rfl, rfl⟩ := ea
    rw [pk_us, pk_us]
    exact ⟨h1, h2⟩
  · have hne : a * 8 + q ≠ o * 8 + p := by omega
    rw [pk_un hne, pk_un hne, e _ (fun i hi => by rcases Nat.lt_trichotomy a o with z | z | z <;> omega), e _ (fun i hi => by rcases Nat.lt_trichotomy a o with z | z | z <;> omega), e _ (fun i hi => by rcases Nat.lt_trichotomy a o with z | z | z <;> omega)]
    exact h a ha q hq
theorem WR.give {f ffl ffn fkd fit fpa : Nat → Int32} {fx o p : Nat} {k v : Int32} (h : WR f fx ffl ffn fkd fit fpa) (ho : o < 32) (h1 : f (29 * o) = 1) (hp : p < 8) (hk : ¬ k = -1) : WR (GIVE f o p k v) fx ffl ffn (upd fkd (o * 8 + p) k) (upd fit (o * 8 + p) (tv k (nrm k v))) fpa := by
  obtain ⟨hc, hw, hu⟩ := h
  have hf := GIVE_far (f := f) (o := o) (p := p) (k := k) (v := v)
  refine ⟨hc.own (fun a ha i hi => hf _ (fun j hj => by rcases Nat.lt_trichotomy a o with z | z | z <;> omega)), hw.one hp hf (fun _ => ?_) (fun z => absurd GIVE_0 z), fun a h2 h3 q hq => ?_⟩
  · rw [GIVE_1, GIVE_2]
    exact ⟨rfl, rfl, hk, fun z => nrm0 z⟩
  · have hao : a ≠ o := fun z => hc.2.2.2.1 a h2 h3 (by rw [z]; exact h1)
    rw [hf _ (fun i hi => by omega)]
    exact hu a h2 h3 q hq
theorem WR.take {f ffl ffn fkd fit fpa : Nat → Int32} {fx o p : Nat} {x : Int32} (h : WR f fx ffl ffn fkd fit fpa) (hp : p < 8) : WR (upd f (29 * o + 5 + 3 * p) 0) fx ffl ffn (upd fkd (o * 8 + p) (-1)) (upd fit (o * 8 + p) x) fpa := by
  obtain ⟨hc, hw, hu⟩ := h
  have hf := give_one (f := f) (a := 29 * o + 5 + 3 * p) (x := 0)
  refine ⟨hc.own (fun a ha i hi => hf _ (fun j hj => by rcases Nat.lt_trichotomy a o with z | z | z <;> omega)), hw.one hp hf (fun z => ?_) (fun _ => rfl), fun a h2 h3 q hq => ?_⟩
  · rw [pk_us] at z; exact absurd z (by decide)
  · by_cases e : 29 * a + 5 + 3 * q = 29 * o + 5 + 3 * p
    · rw [e, pk_us]; decide
    · rw [pk_un e]; exact hu a h2 h3 q hq
theorem EMQ_in {f : Nat → Int32} {o : Nat} : ∀ n, n ≤ 8 → EMQ f o n (29 * o) = 1 ∧ ∀ p, p < n → EMQ f o n (29 * o + 5 + 3 * p) = 0 := by
  intro n
  induction n with
  | zero => intro _; exact ⟨by show upd (upd f (29 * o) 1) (29 * o + 1) 0 (29 * o) = 1; rw [pk_un (by omega), pk_us], fun p hp => absurd hp (Nat.not_lt_zero p)⟩
  | succ n ih =>
    intro hn
    obtain ⟨h1, h2⟩ := ih (by omega)
    refine ⟨by show upd (EMQ f o n) (29 * o + 5 + 3 * n) 0 (29 * o) = 1; rw [pk_un (by omega)]; exact h1, fun p hp => ?_⟩
    show upd (EMQ f o n) (29 * o + 5 + 3 * n) 0 (29 * o + 5 + 3 * p) = 0
    by_cases e : p = n
    · subst e; exact pk_us
    · rw [pk_un (by omega)]; exact h2 p (by omega)
theorem CLR_in {f : Nat → Int32} {o : Nat} {v : Int32} : ∀ n p, p < n → CLR f o v n (o * 8 + p) = v := by
  intro n
  induction n with
  | zero => intro p hp; exact absurd hp (Nat.not_lt_zero p)
  | succ n ih =>
    intro p hp
    show upd (CLR f o v n) (o * 8 + n) v (o * 8 + p) = v
    by_cases e : p = n
    · subst e; exact pk_us
    · rw [pk_un (by omega)]; exact ih p (by omega)
theorem CLR_far {f : Nat → Int32} {o : Nat} {v : Int32} {j : Nat} : ∀ n, (∀ p, p < n → j ≠ o * 8 + p) → CLR f o v n j = f j := by
  intro n
  induction n with
  | zero => intro _; rfl
  | succ n ih =>
    intro h
    show upd (CLR f o v n) (o * 8 + n) v j = f j
    rw [pk_un (h n (by omega))]
    exact ih (fun p hp => h p (by omega))
theorem MAKEW_far {f : Nat → Int32} {o : Nat} {q : Int32} : ∀ j, (∀ i, i < 29 → j ≠ 29 * o + i) → MAKEW f o q j = f j := fun j hj => by
  unfold MAKEW
  rw [pk_un (hj 2 (by decide)), pk_un (hj 1 (by decide))]
  exact EMP_far j hj
theorem MAKEW_in {f : Nat → Int32} {o : Nat} {q : Int32} : MAKEW f o q (29 * o) = 1 ∧ MAKEW f o q (29 * o + 1) = 1 ∧ MAKEW f o q (29 * o + 2 + 0) = q ∧ ∀ p, p < 8 → MAKEW f o q (29 * o + 5 + 3 * p) = 0 := by
  obtain ⟨h1, h2⟩ := EMQ_in (f := f) (o := o) 8 (by decide)
  unfold MAKEW EMP
  refine ⟨?_, ?_, ?_, fun p hp => ?_⟩
  · rw [pk_un (by omega), pk_un (by omega)]; exact h1
  · rw [pk_un (by omega), pk_us]
  · exact pk_us
  · rw [pk_un (by omega), pk_un (by omega)]; exact h2 p hp
theorem WR.make {f ffl ffn fkd fit fpa : Nat → Int32} {fx o q : Nat} (h : WR f fx ffl ffn fkd fit fpa) (h16 : 16 ≤ o) (ho : o < 32) (h0 : ¬ f (29 * o) = 1) (hq : q < 32) (hq1 : f (29 * q) = 1) :
    WR (MAKEW f o (nI q)) fx ffl ffn (CLR fkd o (-1) 8) (CLR fit o 0 8) (upd fpa (o - 16) (nI q)) := by
  obtain ⟨hc, hw, hu⟩ := h
  obtain ⟨⟨rk, hwp⟩, hfx, hlo, hno, hm⟩ := hc
  have hf := MAKEW_far (f := f) (o := o) (q := nI q)
  obtain ⟨m0, m1, m2, m3⟩ := MAKEW_in (f := f) (o := o) (q := nI q)
  have hO : WO f fx := ⟨⟨rk, hwp⟩, fun a h1 h2 => hno a h1 h2⟩
  have hG := make_ok (g := EMP f o) (x := o) (pp := q) hO h16 ho h0 hq hq1 EMP_far
  have hs : SPT f (MAKEW f o (nI q)) := fun a ha h1 i hi => hf _ (fun j hj => by have : a ≠ o := fun z => h0 (by rw [← z]; exact h1); omega)
  refine ⟨⟨hG.1.1, hfx, fun i hi => ?_, fun a h1 h2 => ?_, fun a h1 h2 => ?_⟩, fun a ha p hp => ?_, fun a h1 h2 p hp => ?_⟩
  · obtain ⟨h1, m, h2, h3, h4⟩ := hlo i hi
    exact ⟨(hf _ (fun j hj => by omega)).trans h1, m, h2, h3, by rw [LNE_spt hwp hs (by omega) h1]; exact h4⟩
  · rw [hf _ (fun j hj => by omega)]; exact hno a h1 h2
  · by_cases e : a = o
    · subst e
      have hpn : pnN (MAKEW f a (nI q)) a = 1 := pn_of (n := 1) m1 (by decide)
      have hpq : pqN (MAKEW f a (nI q)) a 0 = q := pq_of m2 hq
      refine ⟨by rw [pk_us]; exact Or.inr ⟨q, hq, rfl⟩, ?_, fun _ => ?_⟩
      · rw [pk_us, m0]
        exact ⟨fun _ => ne_m1 (by omega), fun _ => rfl⟩
      · rw [pk_us, hpn, hpq]; exact ⟨rfl, rfl⟩
    · obtain ⟨a1, a2, a3⟩ := hm a h1 h2
      have ea : MAKEW f o (nI q) (29 * a) = f (29 * a) := hf _ (fun j hj => by omega)
      rw [pk_un (show a - 16 ≠ o - 16 by omega), ea]
      refine ⟨a1, a2, fun z => ?_⟩
      rw [hs.pn h2 z, hs.pq h2 z (by decide)]
      exact a3 z
  · by_cases e : a = o
    · subst e
      rw [m3 p hp, CLR_in 8 p hp]
      exact ⟨fun z => absurd z (by decide), fun _ => rfl⟩
    · rw [CLR_far 8 (fun i hi => by omega), CLR_far 8 (fun i hi => by omega), hf _ (fun i hi => by omega), hf _ (fun i hi => by omega), hf _ (fun i hi => by omega)]
      exact hw a ha p hp
  · rw [hf _ (fun i hi => by omega)]; exact hu a h1 h2 p hp
/-! points and what is saved -/
def wv (fw : Nat → Int32) (v : Nat) : Nat → Int32 := fun j => fw (928 * v + j)
def PTR (fw : Nat → Int32) (po fx : Nat) (ffl ffn gk0 gi0 gr0 gk1 gi1 gr1 gk2 gi2 gr2 : Nat → Int32) : Prop := (0 < po → WR (wv fw 1) fx ffl ffn gk0 gi0 gr0) ∧ (1 < po → WR (wv fw 2) fx ffl ffn gk1 gi1 gr1) ∧ (2 < po → WR (wv fw 3) fx ffl ffn gk2 gi2 gr2)
def SVR (fw fs : Nat → Int32) (fx : Nat) (ffl ffn gk3 gi3 gr3 gk4 gi4 gr4 : Nat → Int32) : Prop := (¬ fs 0 = 0 → WR (wv fw 4) fx ffl ffn gk3 gi3 gr3) ∧ (¬ fs 1 = 0 → WR (wv fw 5) fx ffl ffn gk4 gi4 gr4)
theorem wv_far {fw g : Nat → Int32} {v : Nat} (e : ∀ j, 928 ≤ j → g j = fw j) (hv : 1 ≤ v) : wv g v = wv fw v := by
  funext j
  exact e _ (by omega)
theorem PTR.zero {fw g : Nat → Int32} {po fx : Nat} {ffl ffn gk0 gi0 gr0 gk1 gi1 gr1 gk2 gi2 gr2 : Nat → Int32} (h : PTR fw po fx ffl ffn gk0 gi0 gr0 gk1 gi1 gr1 gk2 gi2 gr2) (e : ∀ j, 928 ≤ j → g j = fw j) : PTR g po fx ffl ffn gk0 gi0 gr0 gk1 gi1 gr1 gk2 gi2 gr2 := by
  unfold PTR
  rw [wv_far e (by decide), wv_far e (by decide), wv_far e (by decide)]
  exact h
theorem SVR.zero {fw g fs : Nat → Int32} {fx : Nat} {ffl ffn gk3 gi3 gr3 gk4 gi4 gr4 : Nat → Int32} (h : SVR fw fs fx ffl ffn gk3 gi3 gr3 gk4 gi4 gr4) (e : ∀ j, 928 ≤ j → g j = fw j) : SVR g fs fx ffl ffn gk3 gi3 gr3 gk4 gi4 gr4 := by
  unfold SVR
  rw [wv_far e (by decide), wv_far e (by decide)]
  exact h
theorem PTR.none {fw : Nat → Int32} {fx : Nat} {ffl ffn gk0 gi0 gr0 gk1 gi1 gr1 gk2 gi2 gr2 : Nat → Int32} : PTR fw 0 fx ffl ffn gk0 gi0 gr0 gk1 gi1 gr1 gk2 gi2 gr2 := ⟨fun z => absurd z (by decide), fun z => absurd z (by decide), fun z => absurd z (by decide)⟩
theorem GIVE_hi {f : Nat → Int32} {o p : Nat} {k v : Int32} (ho : o < 32) (hp : p < 8) : ∀ j, 928 ≤ j → GIVE f o p k v j = f j := fun j hj => GIVE_far j (fun i hi => by omega)
theorem MAKEW_hi {f : Nat → Int32} {o : Nat} {q : Int32} (ho : o < 32) : ∀ j, 928 ≤ j → MAKEW f o q j = f j := fun j hj => MAKEW_far j (fun i hi => by omega)
theorem wv_s {fw : Nat → Int32} {a b : Nat} : ∀ j, j < 928 → wv (CPY fw a b) b j = wv fw a j := fun j hj => by
  unfold wv CPY; rw [if_pos (by omega), show 928 * b + j - 928 * b = j from by omega]
theorem wv_n {fw : Nat → Int32} {a b v : Nat} (hv : v ≠ b) : ∀ j, j < 928 → wv (CPY fw a b) v j = wv fw v j := fun j hj => by
  unfold wv CPY; rw [if_neg (fun hc => by rcases Nat.lt_or_gt_of_ne hv with z | z <;> omega)]
theorem wv_0 {fw : Nat → Int32} : ∀ j, j < 928 → fw j = wv fw 0 j := fun j _ => by unfold wv; rw [show 928 * 0 + j = j from by omega]
theorem wv_01 {fw : Nat → Int32} : ∀ j, j < 928 → wv fw 0 j = fw j := fun j _ => by unfold wv; rw [show 928 * 0 + j = j from by omega]
theorem WR.w0 {fw ffl ffn fkd fit fpa : Nat → Int32} {fx : Nat} (h : WR fw fx ffl ffn fkd fit fpa) : WR (wv fw 0) fx ffl ffn fkd fit fpa := h.congr wv_01
theorem WR.of0 {fw ffl ffn fkd fit fpa : Nat → Int32} {fx : Nat} (h : WR (wv fw 0) fx ffl ffn fkd fit fpa) : WR fw fx ffl ffn fkd fit fpa := h.congr wv_0
theorem WR.cs {fw ffl ffn fkd fit fpa : Nat → Int32} {fx a b : Nat} (h : WR (wv fw a) fx ffl ffn fkd fit fpa) : WR (wv (CPY fw a b) b) fx ffl ffn fkd fit fpa := h.congr wv_s
theorem WR.cn {fw ffl ffn fkd fit fpa : Nat → Int32} {fx a b v : Nat} (h : WR (wv fw v) fx ffl ffn fkd fit fpa) (hv : v ≠ b) : WR (wv (CPY fw a b) v) fx ffl ffn fkd fit fpa := h.congr (wv_n hv)
theorem WR.c0 {fw ffl ffn fkd fit fpa : Nat → Int32} {fx a b : Nat} (h : WR fw fx ffl ffn fkd fit fpa) (hb : b ≠ 0) : WR (CPY fw a b) fx ffl ffn fkd fit fpa := (h.w0.cn (a := a) (Ne.symm hb)).of0
theorem NRM.up {fk fn : Nat → Int32} {i : Nat} {k v : Int32} (h : NRM fk fn) (hk : ¬ k = -1) : NRM (upd fk i k) (upd fn i (nrm k v)) := fun j => by
  by_cases e : j = i
  · subst e; rw [pk_us, pk_us]; exact ⟨hk, fun z => nrm0 z⟩
  · rw [pk_un e, pk_un e]; exact h j
theorem NRM.cp {fk fn : Nat → Int32} {i j : Nat} (h : NRM fk fn) : NRM (upd fk i (fk j)) (upd fn i (fn j)) := fun a => by
  by_cases e : a = i
  · subst e; rw [pk_us, pk_us]; exact h j
  · rw [pk_un e, pk_un e]; exact h a
theorem NRM.nils {fk fn : Nat → Int32} {b : Nat} (h : NRM fk fn) : ∀ n, NRM (NILS fk b n) (NILS fn b n) := by
  intro n
  induction n with
  | zero => exact h
  | succ n ih =>
    intro j
    have e1 : NILS fk b (n + 1) = upd (NILS fk b n) (b + n) 0 := rfl
    have e2 : NILS fn b (n + 1) = upd (NILS fn b n) (b + n) 0 := rfl
    rw [e1, e2]
    by_cases e : j = b + n
    · subst e; rw [pk_us, pk_us]; exact ⟨by decide, fun _ => rfl⟩
    · rw [pk_un e, pk_un e]; exact ih j
