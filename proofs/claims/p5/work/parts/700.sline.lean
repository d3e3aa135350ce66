/-! lines, exactly: depth first, the last parent first, each object behind its parents -/
def pnN (f : Nat → Int32) (o : Nat) : Nat := (f (29 * o + 1)).toNatClampNeg
def pqN (f : Nat → Int32) (o k : Nat) : Nat := (f (29 * o + 2 + k)).toNatClampNeg
def remV (v : List Nat → Nat → List Nat) (f : Nat → Int32) (x : Nat) : Nat → List Nat → List Nat
  | 0, acc => acc ++ [x]
  | k + 1, acc => remV v f x k (v acc (pqN f x k))
def vis (f : Nat → Int32) : Nat → List Nat → Nat → List Nat
  | 0, acc, _ => acc
  | d + 1, acc, o => if o ∈ acc then acc else remV (vis f d) f o (pnN f o) acc
theorem remV_congr {v w : List Nat → Nat → List Nat} {f : Nat → Int32} {x : Nat} : ∀ (k : Nat) (acc : List Nat), (∀ i, i < k → ∀ a, v a (pqN f x i) = w a (pqN f x i)) → remV v f x k acc = remV w f x k acc := by
  intro k
  induction k with
  | zero => intro acc _; rfl
  | succ k ih =>
    intro acc h
    show remV v f x k (v acc (pqN f x k)) = remV w f x k (w acc (pqN f x k))
    rw [h k (by omega) acc]
    exact ih _ (fun i hi a => h i (by omega) a)
/-- what an object's world says of its parents -/
theorem WP.par {f : Nat → Int32} {rk : Nat → Nat} (h : WP f rk) {o : Nat} (ho : o < 32) (h1 : f (29 * o) = 1) : pnN f o ≤ 3 ∧ f (29 * o + 1) = nI (pnN f o) ∧ ∀ k, k < pnN f o → pqN f o k < 32 ∧ f (29 * o + 2 + k) = nI (pqN f o k) ∧ f (29 * pqN f o k) = 1 ∧ rk (pqN f o k) < rk o := by
  obtain ⟨n, hn, e, hp⟩ := h o ho h1
  have en : pnN f o = n := by unfold pnN; rw [e]; exact nI_clamp (by omega)
  rw [en]
  refine ⟨hn, e, fun k hk => ?_⟩
  obtain ⟨q, hq, e2, hq1, hr⟩ := hp k hk
  have eq : pqN f o k = q := by unfold pqN; rw [e2]; exact nI_clamp (by omega)
  rw [eq]
  exact ⟨hq, e2, hq1, hr⟩
theorem vis_fuel {f : Nat → Int32} {rk : Nat → Nat} (hw : WP f rk) : ∀ (d d' o : Nat) (acc : List Nat), o < 32 → f (29 * o) = 1 → rk o < d → rk o < d' → vis f d acc o = vis f d' acc o := by
  intro d
  induction d with
  | zero => intro d' o acc _ _ h _; exact absurd h (Nat.not_lt_zero _)
  | succ d ih =>
    intro d' o acc ho h1 hd hd'
    cases d' with
    | zero => exact absurd hd' (Nat.not_lt_zero _)
    | succ d' =>
      show (if o ∈ acc then acc else remV (vis f d) f o (pnN f o) acc) = (if o ∈ acc then acc else remV (vis f d') f o (pnN f o) acc)
      rw [remV_congr (v := vis f d) (w := vis f d') (pnN f o) acc (fun i hi a => ?_)]
      obtain ⟨-, -, hp⟩ := hw.par ho h1
      obtain ⟨hq, -, hq1, hr⟩ := hp i hi
      exact ih d' _ a hq hq1 (by omega) (by omega)
theorem cnt_less {s t : Nat → Bool} {n q : Nat} (hq : q < n) (h : ∀ i, i < n → s i = true → t i = true) (hs : s q = false) (ht : t q = true) : cnt s n < cnt t n := by
  have h1 : cnt (fun i => s i || decide (i = q)) n = cnt s n + 1 := cnt_add hq hs (by simp) (fun i _ hi => by simp [hi])
  have h2 : cnt (fun i => s i || decide (i = q)) n ≤ cnt t n := cnt_mono (fun i hi hh => by
    rw [Bool.or_eq_true] at hh
    rcases hh with z | z
    · exact h i hi z
    · rw [of_decide_eq_true z]; exact ht)
  omega
/-- a rank below 32 -/
theorem WP.norm {f : Nat → Int32} {rk : Nat → Nat} (h : WP f rk) : ∃ r, WP f r ∧ ∀ o, o < 32 → r o < 32 := by
  refine ⟨fun o => cnt (fun q => decide (rk q < rk o)) 32, fun o ho h1 => ?_, fun o ho => cnt_lt ho (by simp)⟩
  obtain ⟨n, hn, e, hp⟩ := h o ho h1
  refine ⟨n, hn, e, fun k hk => ?_⟩
  obtain ⟨q, hq, e2, hq1, hr⟩ := hp k hk
  exact ⟨q, hq, e2, hq1, cnt_less hq (fun i _ hi => by have := of_decide_eq_true hi; exact decide_eq_true (by omega)) (by simp) (decide_eq_true hr)⟩
def LNE (f : Nat → Int32) (o : Nat) : List Nat := vis f 33 [] o
def fin_ (f : Nat → Int32) (X K : Nat → Nat) : Nat → List Nat → List Nat
  | 0, acc => acc
  | n + 1, acc => fin_ f X K n (remV (vis f 33) f (X n) (K n) acc)
theorem fin_congr {f : Nat → Int32} {X K Y J : Nat → Nat} : ∀ (n : Nat) (acc : List Nat), (∀ i, i < n → X i = Y i ∧ K i = J i) → fin_ f X K n acc = fin_ f Y J n acc := by
  intro n
  induction n with
  | zero => intro acc _; rfl
  | succ n ih =>
    intro acc h
    show fin_ f X K n (remV (vis f 33) f (X n) (K n) acc) = fin_ f Y J n (remV (vis f 33) f (Y n) (J n) acc)
    rw [(h n (by omega)).1, (h n (by omega)).2]
    exact ih _ (fun i hi => h i (by omega))
theorem vis_in {f : Nat → Int32} {acc : List Nat} {q : Nat} (h : q ∈ acc) : vis f 33 acc q = acc := if_pos h
theorem vis_out {f : Nat → Int32} {rk : Nat → Nat} (hw : WP f rk) (hr : ∀ o, o < 32 → rk o < 32) {acc : List Nat} {q : Nat} (hq : q < 32) (h1 : f (29 * q) = 1) (h : ¬ q ∈ acc) : vis f 33 acc q = remV (vis f 33) f q (pnN f q) acc := by
  show (if q ∈ acc then acc else remV (vis f 32) f q (pnN f q) acc) = _
  rw [if_neg h]
  refine remV_congr _ _ (fun i hi a => ?_)
  obtain ⟨-, -, hp⟩ := hw.par hq h1
  obtain ⟨h2, -, h3, h4⟩ := hp i hi
  have := hr q hq
  exact vis_fuel hw 32 33 _ a h2 h3 (by omega) (by omega)
theorem fin_pop {f : Nat → Int32} {X K : Nat → Nat} {n : Nat} {acc : List Nat} (hn : 1 ≤ n) (h : K (n - 1) = 0) : fin_ f X K n acc = fin_ f X K (n - 1) (acc ++ [X (n - 1)]) := by
  cases n with
  | zero => omega
  | succ n =>
    show fin_ f X K n (remV (vis f 33) f (X n) (K n) acc) = _
    rw [show K n = 0 from h]
    rfl
theorem fin_met {f : Nat → Int32} {X K : Nat → Nat} {n k : Nat} {acc : List Nat} (hn : 1 ≤ n) (h : K (n - 1) = k + 1) (hm : pqN f (X (n - 1)) k ∈ acc) : fin_ f X K n acc = fin_ f X (updN K (n - 1) k) n acc := by
  cases n with
  | zero => omega
  | succ n =>
    show fin_ f X K n (remV (vis f 33) f (X n) (K n) acc) = fin_ f X (updN K n k) n (remV (vis f 33) f (X n) (updN K n k n) acc)
    rw [show K n = k + 1 from h, updN_s]
    show fin_ f X K n (remV (vis f 33) f (X n) k (vis f 33 acc (pqN f (X n) k))) = _
    rw [show vis f 33 acc (pqN f (X n) k) = acc from vis_in hm]
    exact fin_congr n _ (fun i hi => ⟨rfl, (updN_n (by omega)).symm⟩)
theorem fin_push {f : Nat → Int32} {rk : Nat → Nat} (hw : WP f rk) (hr : ∀ o, o < 32 → rk o < 32) {X K : Nat → Nat} {n k : Nat} {acc : List Nat} (hn : 1 ≤ n) (h : K (n - 1) = k + 1) (hq : pqN f (X (n - 1)) k < 32) (h1 : f (29 * pqN f (X (n - 1)) k) = 1) (hm : ¬ pqN f (X (n - 1)) k ∈ acc) :
    fin_ f X K n acc = fin_ f (updN X n (pqN f (X (n - 1)) k)) (updN (updN K (n - 1) k) n (pnN f (pqN f (X (n - 1)) k))) (n + 1) acc := by
  cases n with
  | zero => omega
  | succ n =>
    show fin_ f X K n (remV (vis f 33) f (X n) (K n) acc) = fin_ f (updN X (n + 1) (pqN f (X n) k)) (updN (updN K n k) (n + 1) (pnN f (pqN f (X n) k))) n (remV (vis f 33) f (updN X (n + 1) (pqN f (X n) k) n) (updN (updN K n k) (n + 1) (pnN f (pqN f (X n) k)) n) (remV (vis f 33) f (updN X (n + 1) (pqN f (X n) k) (n + 1)) (updN (updN K n k) (n + 1) (pnN f (pqN f (X n) k)) (n + 1)) acc))
    rw [updN_s, updN_s, updN_n (show n ≠ n + 1 by omega), updN_n (show n ≠ n + 1 by omega), updN_s, show K n = k + 1 from h]
    show fin_ f X K n (remV (vis f 33) f (X n) k (vis f 33 acc (pqN f (X n) k))) = _
    rw [show vis f 33 acc (pqN f (X n) k) = remV (vis f 33) f (pqN f (X n) k) (pnN f (pqN f (X n) k)) acc from vis_out hw hr hq h1 hm]
    exact fin_congr n _ (fun i hi => ⟨(updN_n (by omega)).symm, by rw [updN_n (by omega), updN_n (by omega)]⟩)
theorem fin_first {f : Nat → Int32} {rk : Nat → Nat} (hw : WP f rk) (hr : ∀ o, o < 32 → rk o < 32) {o : Nat} (ho : o < 32) (h1 : f (29 * o) = 1) : fin_ f (fun _ => o) (fun _ => pnN f o) 1 [] = LNE f o := by
  show remV (vis f 33) f o (pnN f o) [] = vis f 33 [] o
  exact (vis_out hw hr ho h1 List.not_mem_nil).symm
/-- a row of an array, as a list -/
def lst (g : Nat → Int32) (n : Nat) : List Nat := (List.range n).map (fun i => (g i).toNatClampNeg)
theorem lst_up {g : Nat → Int32} {n x : Nat} (hx : x < 32) : lst (upd g n (nI x)) (n + 1) = lst g n ++ [x] := by
  unfold lst
  rw [List.range_succ, List.map_append]
  congr 1
  · refine List.map_congr_left (fun i hi => ?_)
    rw [pk_un (Nat.ne_of_lt (List.mem_range.mp hi))]
  · show [(upd g n (nI x) n).toNatClampNeg] = [x]
    rw [pk_us, nI_clamp (by omega)]
def MET (fm : Nat → Int32) (l : List Nat) : Prop := ∀ q, q < 32 → (q ∈ l → fm q = 1) ∧ (¬ q ∈ l → fm q = 0)
theorem MET.nil {fm : Nat → Int32} (h : ∀ i, i < 32 → fm i = 0) : MET fm [] := fun q hq => ⟨fun z => absurd z List.not_mem_nil, fun _ => h q hq⟩
theorem MET.more {fm : Nat → Int32} {l : List Nat} {x : Nat} (h : MET fm l) : MET (upd fm x 1) (l ++ [x]) := fun q hq => by
  by_cases e : q = x
  · subst e
    exact ⟨fun _ => pk_us, fun z => absurd (List.mem_append_right _ (List.mem_singleton.mpr rfl)) z⟩
  · rw [pk_un e]
    refine ⟨fun z => (h q hq).1 ?_, fun z => (h q hq).2 (fun y => z (List.mem_append_left _ y))⟩
    rcases List.mem_append.mp z with y | y
    · exact y
    · exact absurd (List.mem_singleton.mp y) e
theorem MET.yes {fm : Nat → Int32} {l : List Nat} {q : Nat} (h : MET fm l) (hq : q < 32) (h0 : ¬ fm q = 0) : q ∈ l := Classical.byContradiction (fun z => h0 ((h q hq).2 z))
theorem MET.no {fm : Nat → Int32} {l : List Nat} {q : Nat} (h : MET fm l) (hq : q < 32) (h0 : fm q = 0) : ¬ q ∈ l := fun z => by
  have := (h q hq).1 z
  rw [h0] at this
  exact absurd this (by decide)
theorem pq_of {f : Nat → Int32} {x k q : Nat} (h : f (29 * x + 2 + k) = nI q) (hq : q < 32) : pqN f x k = q := by unfold pqN; rw [h]; exact nI_clamp (by omega)
theorem pn_of {f : Nat → Int32} {x n : Nat} (h : f (29 * x + 1) = nI n) (hn : n ≤ 3) : pnN f x = n := by unfold pnN; rw [h]; exact nI_clamp (by omega)
/-! whose own value it is -/
def fnd (f : Nat → Int32) (p : Nat) (r : List Nat) : Option Nat := r.find? (fun q => decide (f (29 * q + 5 + 3 * p) = 1))
/-- what lies behind b in a line that is read from its object on -/
def bhd (b : Int32) (r : List Nat) : List Nat := (r.dropWhile (fun q => decide (nI q ≠ b))).drop 1
def oI (x : Option Nat) : Int32 := match x with | some q => nI q | none => -1
def ownv (f : Nat → Int32) (r : List Nat) (p : Nat) (b : Int32) : Int32 := oI (fnd f p (if b = -1 then r else bhd b r))
/-- the first n of a row, read from the last on -/
def rvl (g : Nat → Int32) (n : Nat) : List Nat := (lst g n).reverse
theorem rvl_s {g : Nat → Int32} {n : Nat} : rvl g (n + 1) = (g n).toNatClampNeg :: rvl g n := by
  unfold rvl lst
  rw [List.range_succ, List.map_append, List.reverse_append]
  rfl
theorem fnd_yes {f g : Nat → Int32} {p n q : Nat} (hg : g n = nI q) (hq : q < 32) (h : f (29 * q + 5 + 3 * p) = 1) : fnd f p (rvl g (n + 1)) = some q := by
  have e : (g n).toNatClampNeg = q := by rw [hg]; exact nI_clamp (by omega)
  rw [rvl_s, e]
  exact List.find?_cons_of_pos (by simpa using h)
theorem fnd_no {f g : Nat → Int32} {p n q : Nat} (hg : g n = nI q) (hq : q < 32) (h : ¬ f (29 * q + 5 + 3 * p) = 1) : fnd f p (rvl g (n + 1)) = fnd f p (rvl g n) := by
  have e : (g n).toNatClampNeg = q := by rw [hg]; exact nI_clamp (by omega)
  rw [rvl_s, e]
  exact List.find?_cons_of_neg (by simpa using h)
theorem bhd_yes {g : Nat → Int32} {b : Int32} {n q : Nat} (hg : g n = nI q) (hq : q < 32) (h : nI q = b) : bhd b (rvl g (n + 1)) = rvl g n := by
  have e : (g n).toNatClampNeg = q := by rw [hg]; exact nI_clamp (by omega)
  rw [rvl_s, e]
  unfold bhd
  rw [List.dropWhile_cons_of_neg (by simp [h])]
  rfl
theorem bhd_no {g : Nat → Int32} {b : Int32} {n q : Nat} (hg : g n = nI q) (hq : q < 32) (h : ¬ nI q = b) : bhd b (rvl g (n + 1)) = bhd b (rvl g n) := by
  have e : (g n).toNatClampNeg = q := by rw [hg]; exact nI_clamp (by omega)
  rw [rvl_s, e]
  unfold bhd
  rw [List.dropWhile_cons_of_pos (by simp [h])]
theorem bhd_nil {b : Int32} : bhd b [] = [] := rfl
theorem DN.neg {x : Int32} {n : Nat} (h : DN x n) (hn : n < 1000) (h0 : x < 0) : n = 0 := by
  rcases h with h | h
  · exact h.neg hn h0
  · exact h.2
