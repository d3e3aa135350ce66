/-! the line of an object with one parent; no object twice -/
theorem LNE_one {f : Nat → Int32} {rk : Nat → Nat} (hw : WP f rk) {o : Nat} (ho : o < 32) (h1 : f (29 * o) = 1) (hn : pnN f o = 1) : LNE f o = LNE f (pqN f o 0) ++ [o] := by
  obtain ⟨r, hr, hl⟩ := hw.norm
  show vis f 33 [] o = vis f 33 [] (pqN f o 0) ++ [o]
  rw [vis_out hr hl ho h1 List.not_mem_nil, hn]
  rfl
theorem remV_nodup {v : List Nat → Nat → List Nat} {f : Nat → Int32} {y : Nat} (hv : ∀ i, i < pnN f y → ∀ a, a.Nodup → ¬ y ∈ a → (v a (pqN f y i)).Nodup ∧ ¬ y ∈ v a (pqN f y i)) : ∀ (k : Nat) (acc : List Nat), k ≤ pnN f y → acc.Nodup → ¬ y ∈ acc → (remV v f y k acc).Nodup := by
  intro k
  induction k with
  | zero =>
    intro acc _ hd hy
    show (acc ++ [y]).Nodup
    rw [List.nodup_append]
    refine ⟨hd, by simp, fun a ha b hb => ?_⟩
    rw [List.mem_singleton.mp hb]
    exact fun z => hy (z ▸ ha)
  | succ k ih =>
    intro acc hk hd hy
    obtain ⟨h1, h2⟩ := hv k (by omega) acc hd hy
    exact ih _ (by omega) h1 h2
theorem vis_low {f : Nat → Int32} {rk : Nat → Nat} (hw : WP f rk) {y : Nat} (d : Nat) (acc : List Nat) (o : Nat) (ho : o < 32) (h1 : f (29 * o) = 1) (hr : rk o < rk y) (ha : ¬ y ∈ acc) : ¬ y ∈ vis f d acc o := fun hy => by
  exact absurd hy (by
    have key : ∀ x, x ∈ vis f d acc o → x ∈ acc ∨ (x < 32 ∧ f (29 * x) = 1 ∧ rk x < rk y) := by
      clear hy
      induction d generalizing acc o with
      | zero => intro x hx; exact Or.inl hx
      | succ d ih =>
        intro x hx
        have hx : x ∈ (if o ∈ acc then acc else remV (vis f d) f o (pnN f o) acc) := hx
        by_cases h : o ∈ acc
        · rw [if_pos h] at hx; exact Or.inl hx
        · rw [if_neg h] at hx
          have inner : ∀ (k : Nat) (a : List Nat), k ≤ pnN f o → (∀ z, z ∈ a → z ∈ acc ∨ (z < 32 ∧ f (29 * z) = 1 ∧ rk z < rk y)) → ∀ z, z ∈ remV (vis f d) f o k a → z ∈ acc ∨ (z < 32 ∧ f (29 * z) = 1 ∧ rk z < rk y) := by
            intro k
            induction k with
            | zero =>
              intro a _ hz z hzm
              rcases List.mem_append.mp (show z ∈ a ++ [o] from hzm) with q | q
              · exact hz z q
              · rw [List.mem_singleton.mp q]; exact Or.inr ⟨ho, h1, hr⟩
            | succ k ihk =>
              intro a hk hz z hzm
              obtain ⟨-, -, hp⟩ := hw.par ho h1
              obtain ⟨q1, -, q2, q3⟩ := hp k (by omega)
              refine ihk (vis f d a (pqN f o k)) (by omega) (fun w hwm => ?_) z hzm
              by_cases hya : y ∈ a
              · exfalso
                rcases hz y hya with q | ⟨-, -, q⟩
                · exact ha q
                · exact absurd q (Nat.lt_irrefl _)
              · rcases ih a (pqN f o k) q1 q2 (by omega) hya w hwm with q | q
                · exact hz w q
                · exact Or.inr q
          exact inner _ acc (Nat.le_refl _) (fun z hz => Or.inl hz) x hx
    intro hy2
    rcases key y hy2 with q | ⟨-, -, q⟩
    · exact ha q
    · exact absurd q (Nat.lt_irrefl _))
theorem vis_nodup {f : Nat → Int32} {rk : Nat → Nat} (hw : WP f rk) : ∀ (d : Nat) (acc : List Nat) (o : Nat), o < 32 → f (29 * o) = 1 → acc.Nodup → (vis f d acc o).Nodup := by
  intro d
  induction d with
  | zero => intro acc o _ _ h; exact h
  | succ d ih =>
    intro acc o ho h1 hd
    show (if o ∈ acc then acc else remV (vis f d) f o (pnN f o) acc).Nodup
    by_cases h : o ∈ acc
    · rw [if_pos h]; exact hd
    · rw [if_neg h]
      refine remV_nodup (fun i hi a ha hya => ?_) _ _ (Nat.le_refl _) hd h
      obtain ⟨-, -, hp⟩ := hw.par ho h1
      obtain ⟨q1, -, q2, q3⟩ := hp i hi
      exact ⟨ih a _ q1 q2 ha, vis_low hw d a _ q1 q2 q3 hya⟩
theorem LNE_nodup {f : Nat → Int32} {rk : Nat → Nat} (hw : WP f rk) {o : Nat} (ho : o < 32) (h1 : f (29 * o) = 1) : (LNE f o).Nodup := vis_nodup hw 33 [] o ho h1 List.nodup_nil
