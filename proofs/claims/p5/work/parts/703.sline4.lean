/-! a line from what is met already: the fresh line without it -/
/-- acc, then what of b isn't in it -/
def EX (acc b : List Nat) : List Nat := acc ++ b.filter (fun x => decide (¬ x ∈ acc))
theorem EX_in {acc b : List Nat} {x : Nat} : x ∈ EX acc b ↔ x ∈ acc ∨ x ∈ b := by
  unfold EX
  rw [List.mem_append, List.mem_filter]
  constructor
  · rintro (h | ⟨h, -⟩)
    · exact Or.inl h
    · exact Or.inr h
  · rintro (h | h)
    · exact Or.inl h
    · by_cases z : x ∈ acc
      · exact Or.inl z
      · exact Or.inr ⟨h, decide_eq_true z⟩
theorem EX_one {acc b : List Nat} {o : Nat} (h : ¬ o ∈ acc) : EX acc b ++ [o] = EX acc (b ++ [o]) := by
  unfold EX
  rw [List.filter_append, List.append_assoc]
  congr 1
  rw [show [o].filter (fun x => decide (¬ x ∈ acc)) = [o] from by simp [h]]
theorem EX_same {acc b e : List Nat} (h : ∀ x, x ∈ e → x ∈ acc) : EX acc (b ++ e) = EX acc b := by
  unfold EX
  rw [List.filter_append, show e.filter (fun x => decide (¬ x ∈ acc)) = [] from List.filter_eq_nil_iff.mpr (fun x hx => by simpa using h x hx), List.append_nil]
theorem vis_pre {f : Nat → Int32} : ∀ (d : Nat) (b : List Nat) (o : Nat), ∃ e, vis f d b o = b ++ e := by
  intro d
  induction d with
  | zero => intro b o; exact ⟨[], (List.append_nil b).symm⟩
  | succ d ih =>
    intro b o
    show ∃ e, (if o ∈ b then b else remV (vis f d) f o (pnN f o) b) = b ++ e
    by_cases h : o ∈ b
    · rw [if_pos h]; exact ⟨[], (List.append_nil b).symm⟩
    · rw [if_neg h]
      have inner : ∀ (k : Nat) (a : List Nat), ∃ e, remV (vis f d) f o k a = a ++ e := by
        intro k
        induction k with
        | zero => intro a; exact ⟨[o], rfl⟩
        | succ k ihk =>
          intro a
          obtain ⟨e1, h1⟩ := ih a (pqN f o k)
          obtain ⟨e2, h2⟩ := ihk (vis f d a (pqN f o k))
          exact ⟨e1 ++ e2, by show remV (vis f d) f o k (vis f d a (pqN f o k)) = _; rw [h2, h1, List.append_assoc]⟩
      exact inner _ b
theorem vis_E {f : Nat → Int32} {rk : Nat → Nat} (hw : WP f rk) {acc : List Nat} (hc : PC f acc) : ∀ (d : Nat) (b : List Nat) (o : Nat), o < 32 → f (29 * o) = 1 → rk o < d → PC f b → (b.Nodup) → vis f d (EX acc b) o = EX acc (vis f d b o) := by
  intro d
  induction d with
  | zero => intro b o _ _ h; exact absurd h (Nat.not_lt_zero _)
  | succ d ih =>
    intro b o ho h1 hd hb hnd
    by_cases hob : o ∈ b
    · rw [show vis f (d + 1) b o = b from if_pos hob]
      exact if_pos (EX_in.mpr (Or.inr hob))
    · by_cases hoa : o ∈ acc
      · rw [show vis f (d + 1) (EX acc b) o = EX acc b from if_pos (EX_in.mpr (Or.inl hoa))]
        obtain ⟨e, he⟩ := vis_pre (f := f) (d + 1) b o
        rw [he]
        refine (EX_same (fun x hx => ?_)).symm
        have hx2 : x ∈ vis f (d + 1) b o := by rw [he]; exact List.mem_append_right _ hx
        have hS := vis_sub (f := f) (S := fun z => z ∈ b ∨ z ∈ acc) (fun z hz k hk => by
          rcases hz with q | q
          · exact Or.inl (hb z q k hk)
          · exact Or.inr (hc z q k hk)) (d + 1) b o (Or.inr hoa) (fun z hz => Or.inl hz) x hx2
        rcases hS with q | q
        · exfalso
          have hn := vis_nodup hw (d + 1) b o ho h1 hnd
          rw [he, List.nodup_append] at hn
          exact hn.2.2 x q x hx rfl
        · exact q
      · have hoe : ¬ o ∈ EX acc b := fun z => by
          rcases EX_in.mp z with q | q
          · exact hoa q
          · exact hob q
        show (if o ∈ EX acc b then EX acc b else remV (vis f d) f o (pnN f o) (EX acc b)) = EX acc (if o ∈ b then b else remV (vis f d) f o (pnN f o) b)
        rw [if_neg hoe, if_neg hob]
        have inner : ∀ (k : Nat) (a : List Nat), k ≤ pnN f o → PC f a → a.Nodup → remV (vis f d) f o k (EX acc a) = EX acc (remV (vis f d) f o k a) := by
          intro k
          induction k with
          | zero => intro a _ _ _; exact EX_one hoa
          | succ k ihk =>
            intro a hk ha hna
            obtain ⟨-, -, hp⟩ := hw.par ho h1
            obtain ⟨q1, -, q2, q3⟩ := hp k (by omega)
            show remV (vis f d) f o k (vis f d (EX acc a) (pqN f o k)) = EX acc (remV (vis f d) f o k (vis f d a (pqN f o k)))
            rw [ih a _ q1 q2 (by omega) ha hna]
            exact ihk _ (by omega) (vis_closed hw d a _ q1 q2 (by omega) ha).1 (vis_nodup hw d a _ q1 q2 hna)
        exact inner _ b (Nat.le_refl _) hb hnd
/-- what gather does: the line of one more parent -/
theorem vis_gather {f : Nat → Int32} {rk : Nat → Nat} (hw : WP f rk) {acc : List Nat} (hc : PC f acc) {o : Nat} (ho : o < 32) (h1 : f (29 * o) = 1) : vis f 33 acc o = EX acc (LNE f o) := by
  obtain ⟨r, hr, hl⟩ := hw.norm
  have := hl o ho
  have z := vis_E hr hc 33 [] o ho h1 (by omega) (fun x hx => absurd hx List.not_mem_nil) List.nodup_nil
  rw [show EX acc [] = acc from List.append_nil acc] at z
  exact z
