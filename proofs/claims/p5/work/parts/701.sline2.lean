/-! what a line holds: its object, and the parents of what it holds; and no more -/
theorem remV_sub {v : List Nat → Nat → List Nat} {f : Nat → Int32} {S : Nat → Prop} (hS : ∀ x, S x → ∀ k, k < pnN f x → S (pqN f x k)) (hv : ∀ a q, S q → (∀ x, x ∈ a → S x) → ∀ x, x ∈ v a q → S x) {y : Nat} (hy : S y) : ∀ (k : Nat) (acc : List Nat), k ≤ pnN f y → (∀ x, x ∈ acc → S x) → ∀ x, x ∈ remV v f y k acc → S x := by
  intro k
  induction k with
  | zero =>
    intro acc _ ha x hx
    rcases List.mem_append.mp (show x ∈ acc ++ [y] from hx) with h | h
    · exact ha x h
    · rw [List.mem_singleton.mp h]; exact hy
  | succ k ih =>
    intro acc hk ha x hx
    exact ih _ (by omega) (hv acc _ (hS y hy k (by omega)) ha) x hx
theorem vis_sub {f : Nat → Int32} {S : Nat → Prop} (hS : ∀ x, S x → ∀ k, k < pnN f x → S (pqN f x k)) : ∀ (d : Nat) (acc : List Nat) (o : Nat), S o → (∀ x, x ∈ acc → S x) → ∀ x, x ∈ vis f d acc o → S x := by
  intro d
  induction d with
  | zero => intro acc o _ ha x hx; exact ha x hx
  | succ d ih =>
    intro acc o ho ha x hx
    have hx : x ∈ (if o ∈ acc then acc else remV (vis f d) f o (pnN f o) acc) := hx
    by_cases h : o ∈ acc
    · rw [if_pos h] at hx; exact ha x hx
    · rw [if_neg h] at hx; exact remV_sub hS ih ho _ _ (Nat.le_refl _) ha x hx
theorem remV_grow {v : List Nat → Nat → List Nat} {f : Nat → Int32} (hv : ∀ a q x, x ∈ a → x ∈ v a q) {y : Nat} : ∀ (k : Nat) (acc : List Nat) (x : Nat), x ∈ acc → x ∈ remV v f y k acc := by
  intro k
  induction k with
  | zero => intro acc x hx; exact List.mem_append_left _ hx
  | succ k ih => intro acc x hx; exact ih _ x (hv acc _ x hx)
theorem vis_grow {f : Nat → Int32} : ∀ (d : Nat) (acc : List Nat) (o x : Nat), x ∈ acc → x ∈ vis f d acc o := by
  intro d
  induction d with
  | zero => intro acc o x hx; exact hx
  | succ d ih =>
    intro acc o x hx
    show x ∈ (if o ∈ acc then acc else remV (vis f d) f o (pnN f o) acc)
    by_cases h : o ∈ acc
    · rw [if_pos h]; exact hx
    · rw [if_neg h]; exact remV_grow ih _ _ x hx
def PC (f : Nat → Int32) (l : List Nat) : Prop := ∀ x, x ∈ l → ∀ k, k < pnN f x → pqN f x k ∈ l
theorem remV_closed {v : List Nat → Nat → List Nat} {f : Nat → Int32} {y : Nat} (hg : ∀ a q x, x ∈ a → x ∈ v a q) : ∀ (k : Nat) (acc : List Nat), k ≤ pnN f y → (∀ i, i < k → ∀ a, PC f a → PC f (v a (pqN f y i)) ∧ pqN f y i ∈ v a (pqN f y i)) → PC f acc → (∀ i, k ≤ i → i < pnN f y → pqN f y i ∈ acc) → PC f (remV v f y k acc) ∧ y ∈ remV v f y k acc := by
  intro k
  induction k with
  | zero =>
    intro acc _ _ hc hp
    refine ⟨fun x hx i hi => ?_, List.mem_append_right _ (List.mem_singleton.mpr rfl)⟩
    rcases List.mem_append.mp (show x ∈ acc ++ [y] from hx) with h | h
    · exact List.mem_append_left _ (hc x h i hi)
    · rw [List.mem_singleton.mp h] at hi ⊢
      exact List.mem_append_left _ (hp i (Nat.zero_le _) hi)
  | succ k ih =>
    intro acc hk hv hc hp
    obtain ⟨h1, h2⟩ := hv k (by omega) acc hc
    exact ih _ (by omega) (fun i hi a ha => hv i (by omega) a ha) h1 (fun i h3 h4 => by
      by_cases e : i = k
      · subst e; exact h2
      · exact hg acc _ _ (hp i (by omega) h4))
theorem vis_closed {f : Nat → Int32} {rk : Nat → Nat} (hw : WP f rk) : ∀ (d : Nat) (acc : List Nat) (o : Nat), o < 32 → f (29 * o) = 1 → rk o < d → PC f acc → PC f (vis f d acc o) ∧ o ∈ vis f d acc o := by
  intro d
  induction d with
  | zero => intro acc o _ _ h; exact absurd h (Nat.not_lt_zero _)
  | succ d ih =>
    intro acc o ho h1 hd hc
    show PC f (if o ∈ acc then acc else remV (vis f d) f o (pnN f o) acc) ∧ o ∈ (if o ∈ acc then acc else remV (vis f d) f o (pnN f o) acc)
    by_cases h : o ∈ acc
    · rw [if_pos h]; exact ⟨hc, h⟩
    · rw [if_neg h]
      refine remV_closed (vis_grow d) _ _ (Nat.le_refl _) (fun i hi a ha => ?_) hc (fun i h2 h3 => absurd h3 (by omega))
      obtain ⟨-, -, hp⟩ := hw.par ho h1
      obtain ⟨q1, -, q2, q3⟩ := hp i hi
      exact ih a _ q1 q2 (by omega) ha
theorem LNE_closed {f : Nat → Int32} {rk : Nat → Nat} (hw : WP f rk) {o : Nat} (ho : o < 32) (h1 : f (29 * o) = 1) : PC f (LNE f o) ∧ o ∈ LNE f o := by
  obtain ⟨r, hr, hl⟩ := hw.norm
  have := hl o ho
  exact vis_closed hr 33 [] o ho h1 (by omega) (fun x hx => absurd hx List.not_mem_nil)
theorem LNE_least {f : Nat → Int32} {S : Nat → Prop} (hS : ∀ x, S x → ∀ k, k < pnN f x → S (pqN f x k)) {o : Nat} (ho : S o) : ∀ x, x ∈ LNE f o → S x := vis_sub hS 33 [] o ho (fun x hx => absurd hx List.not_mem_nil)
theorem LNE_there {f : Nat → Int32} {rk : Nat → Nat} (hw : WP f rk) {o : Nat} (ho : o < 32) (h1 : f (29 * o) = 1) : ∀ x, x ∈ LNE f o → x < 32 ∧ f (29 * x) = 1 :=
  LNE_least (S := fun x => x < 32 ∧ f (29 * x) = 1) (fun x hx k hk => by
    obtain ⟨-, -, hp⟩ := hw.par hx.1 hx.2
    obtain ⟨q1, -, q2, -⟩ := hp k hk
    exact ⟨q1, q2⟩) ⟨ho, h1⟩
/-- marks that hold only what the line holds -/
def MKL (f : Nat → Int32) (o : Nat) (mk : Int32) : Prop := ∀ q, q < 32 → bt mk q = true → q ∈ LNE f o
theorem MKL.one {f : Nat → Int32} {rk : Nat → Nat} (hw : WP f rk) {o : Nat} (ho : o < 32) (h1 : f (29 * o) = 1) : MKL f o (1 <<< (nI o &&& 31)) := fun q hq hb => by
  rw [b_one ho hq] at hb
  rw [of_decide_eq_true hb]; exact (LNE_closed hw ho h1).2
theorem MKL.add {f : Nat → Int32} {rk : Nat → Nat} (hw : WP f rk) {o x k q : Nat} {mk b : Int32} (ho : o < 32) (h1 : f (29 * o) = 1) (h : MKL f o mk) (hb : MKL f o b) (hx : x < 32) (hbx : bt b x = true) (hk : k < pnN f x) (hq : pqN f x k = q) (hq2 : q < 32) : MKL f o (mk ||| 1 <<< (nI q &&& 31)) := fun y hy hby => by
  rw [b_add hq2 hy, Bool.or_eq_true] at hby
  rcases hby with z | z
  · exact h y hy z
  · rw [of_decide_eq_true z, ← hq]
    exact (LNE_closed hw ho h1).1 x (hb x hx hbx) k hk
theorem MKL.all {f : Nat → Int32} {rk : Nat → Nat} (hw : WP f rk) {o : Nat} {mk : Int32} (ho : o < 32) (h1 : f (29 * o) = 1) (h : MKL f o mk) (hm : MK f mk) (h0 : bt mk o = true) (hc : CL f mk mk) : ∀ q, q < 32 → (bt mk q = true ↔ q ∈ LNE f o) := fun q hq => ⟨h q hq, fun hl => by
  have := LNE_least (f := f) (S := fun x => x < 32 ∧ bt mk x = true) (fun x hx k hk => by
    obtain ⟨hn, e, hp⟩ := hw.par hx.1 (hm x hx.1 hx.2)
    obtain ⟨q1, e2, -, -⟩ := hp k hk
    exact ⟨q1, hc x hx.1 hx.2 _ hn e k hk _ q1 e2⟩) ⟨ho, h0⟩ q hl
  exact this.2⟩
