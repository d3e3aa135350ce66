/-! gathering: the line of a new fixed object -/
theorem EX_in1 {acc l : List Nat} {n : Nat} (hn : n < l.length) (hd : l.Nodup) (h : l[n] ∈ EX acc (l.take n)) : EX acc (l.take (n + 1)) = EX acc (l.take n) := by
  rw [List.take_succ_eq_append_getElem hn]
  refine EX_same (fun x hx => ?_)
  rw [List.mem_singleton.mp hx]
  rcases EX_in.mp h with z | z
  · exact z
  · exfalso
    rw [← List.take_append_drop n l, List.nodup_append] at hd
    refine hd.2.2 _ z l[n] ?_ rfl
    rw [List.drop_eq_getElem_cons hn]
    exact List.mem_cons_self
theorem EX_out1 {acc l : List Nat} {n : Nat} (hn : n < l.length) (h : ¬ l[n] ∈ EX acc (l.take n)) : EX acc (l.take (n + 1)) = EX acc (l.take n) ++ [l[n]] := by
  rw [List.take_succ_eq_append_getElem hn]
  exact (EX_one (fun z => h (EX_in.mpr (Or.inl z)))).symm
theorem row_at {ffl : Nat → Int32} {L : List Nat} {i m k q : Nat} (h : rowl ffl i m = L.reverse) (hk : k < m) (e : ffl (i * 16 + k) = nI q) (hq : q < 32) : m = L.length ∧ ∃ hl : m - 1 - k < L.length, L[m - 1 - k] = q := by
  have hm : m = L.length := by
    have := congrArg List.length h
    simpa [rowl] using this
  have hl : m - 1 - k < L.length := by omega
  refine ⟨hm, hl, ?_⟩
  have h1 : (rowl ffl i m)[k]'(by simp [rowl]; exact hk) = q := by
    simp only [rowl, List.getElem_map, List.getElem_range]
    rw [e]
    exact nI_clamp (by omega)
  have h2 : (L.reverse)[k]'(by rw [List.length_reverse]; omega) = L[m - 1 - k] := by
    rw [List.getElem_reverse]
    congr 1
    omega
  rw [← h2, ← h1]
  congr 1
  exact h.symm
/-- what is gathered: the row, and the same as bits -/
def GAX (g : Nat → Int32) (le : Nat) (b : Int32) (fx : Nat) (acc : List Nat) : Prop := GA g le b fx ∧ lst g le = acc ∧ ∀ q, q < 32 → (bt b q = true ↔ q ∈ acc)
theorem GAX.zero {g : Nat → Int32} {fx : Nat} : GAX g 0 0 fx [] := ⟨GA.zero, rfl, fun q _ => ⟨fun h => by rw [b_0] at h; exact absurd h (by decide), fun h => absurd h List.not_mem_nil⟩⟩
theorem GAX.add {g : Nat → Int32} {le fx q : Nat} {b : Int32} {acc : List Nat} (h : GAX g le b fx acc) (hfx : fx ≤ 16) (hq : q < fx) (hb : bt b q = false) : le < 32 ∧ GAX (upd g le (nI q)) (le + 1) (b ||| 1 <<< (nI q &&& 31)) fx (acc ++ [q]) := by
  obtain ⟨h1, h2, h3⟩ := h
  obtain ⟨a1, a2⟩ := h1.add hfx hq hb
  refine ⟨a1, a2, by rw [lst_up (by omega), h2], fun x hx => ?_⟩
  rw [b_add (by omega) hx, Bool.or_eq_true, List.mem_append, h3 x hx]
  constructor
  · rintro (z | z)
    · exact Or.inl z
    · exact Or.inr (by rw [of_decide_eq_true z]; exact List.mem_singleton.mpr rfl)
  · rintro (z | z)
    · exact Or.inl z
    · exact Or.inr (decide_eq_true (List.mem_singleton.mp z))
theorem GAX.len {g : Nat → Int32} {le fx : Nat} {b : Int32} {acc : List Nat} (h : GAX g le b fx acc) : acc.length = le := by
  rw [← h.2.1]; simp [lst]
theorem GAX.at {g : Nat → Int32} {le fx k q : Nat} {b : Int32} {acc : List Nat} (h : GAX g le b fx acc) (hk : k < le) (e : g k = nI q) (hq : q < 100000) : ∃ hl : k < acc.length, acc[k] = q := by
  have hl : k < acc.length := by rw [h.len]; exact hk
  refine ⟨hl, ?_⟩
  have : ∀ (a : List Nat) (ha : a = lst g le) (h1 : k < a.length), a[k] = q := by
    intro a ha h1
    subst ha
    simp only [lst, List.getElem_map, List.getElem_range]
    rw [e]; exact nI_clamp (by omega)
  exact this acc h.2.1.symm hl
/-- the row of the new object, as far as it is laid -/
def FXR (ffl g : Nat → Int32) (fx k : Nat) (acc : List Nat) : Prop := g (fx * 16) = nI fx ∧ (∀ i, i < k → ∃ hl : acc.length - 1 - i < acc.length, g (fx * 16 + 1 + i) = nI (acc[acc.length - 1 - i])) ∧ ∀ j, (j < fx * 16 ∨ fx * 16 + 1 + k ≤ j) → g j = ffl j
theorem FXR.init {ffl : Nat → Int32} {fx : Nat} {acc : List Nat} : FXR ffl (upd ffl (fx * 16) (nI fx)) fx 0 acc := ⟨pk_us, fun i hi => absurd hi (Nat.not_lt_zero i), fun j hj => pk_un (by omega)⟩
theorem FXR.step {ffl g : Nat → Int32} {fx k q : Nat} {acc : List Nat} (h : FXR ffl g fx k acc) (hl : acc.length - 1 - k < acc.length) (hq : acc[acc.length - 1 - k] = q) : FXR ffl (upd g (fx * 16 + 1 + k) (nI q)) fx (k + 1) acc := by
  obtain ⟨h1, h2, h3⟩ := h
  refine ⟨by rw [pk_un (by omega)]; exact h1, fun i hi => ?_, fun j hj => by rw [pk_un (by omega)]; exact h3 j (by omega)⟩
  by_cases e : i = k
  · subst e; rw [pk_us]; exact ⟨hl, by rw [hq]⟩
  · rw [pk_un (by omega)]; exact h2 i (by omega)
theorem FXR.row {ffl g : Nat → Int32} {fx : Nat} {acc : List Nat} (h : FXR ffl g fx acc.length acc) (hfx : fx < 100) (hx : ∀ x, x ∈ acc → x < 100) : rowl g fx (acc.length + 1) = (acc ++ [fx]).reverse := by
  obtain ⟨h1, h2, -⟩ := h
  apply List.ext_getElem
  · simp [rowl]
  · intro i hi1 hi2
    simp only [rowl, List.getElem_map, List.getElem_range]
    rw [List.getElem_reverse]
    have hl : acc.length + 1 = (acc ++ [fx]).length := by simp
    by_cases e : i = 0
    · subst e
      rw [show fx * 16 + 0 = fx * 16 from by omega, h1, nI_clamp (by omega)]
      rw [List.getElem_append_right (by simp)]
      simp
    · have hi3 : i < acc.length + 1 := by simpa [rowl] using hi1
      obtain ⟨hl2, e2⟩ := h2 (i - 1) (by omega)
      rw [show fx * 16 + i = fx * 16 + 1 + (i - 1) from by omega, e2]
      have hb := hx _ (List.getElem_mem hl2)
      rw [nI_clamp (by omega)]
      have e4 : (acc ++ [fx]).length - 1 - i = acc.length - 1 - (i - 1) := by simp; omega
      rw [List.getElem_append_left (by simp; omega)]
      congr 1
      omega
theorem OBW_far {f : Nat → Int32} {fx : Nat} {a b c : Int32} : ∀ j, (∀ i, i < 29 → j ≠ 29 * fx + i) → OBW f fx a b c j = f j := fun j hj => by
  unfold OBW
  rw [pk_un (hj 4 (by decide)), pk_un (hj 3 (by decide)), pk_un (hj 2 (by decide)), pk_un (hj 1 (by decide))]
  exact EMP_far j hj
theorem OBW_in {f : Nat → Int32} {fx : Nat} {a b c : Int32} : OBW f fx a b c (29 * fx) = 1 ∧ OBW f fx a b c (29 * fx + 1) = nI (MNY a b c) ∧ OBW f fx a b c (29 * fx + 2 + 0) = a ∧ OBW f fx a b c (29 * fx + 2 + 1) = b ∧ OBW f fx a b c (29 * fx + 2 + 2) = c ∧ ∀ p, p < 8 → OBW f fx a b c (29 * fx + 5 + 3 * p) = 0 := by
  obtain ⟨h1, h2⟩ := EMQ_in (f := f) (o := fx) 8 (by decide)
  unfold OBW EMP
  refine ⟨?_, obj_1, obj_2, obj_3, obj_4, fun p hp => ?_⟩
  · rw [pk_un (by omega), pk_un (by omega), pk_un (by omega), pk_un (by omega)]; exact h1
  · rw [pk_un (by omega), pk_un (by omega), pk_un (by omega), pk_un (by omega)]; exact h2 p hp
theorem isp_lt {f ffl ffn fpa : Nat → Int32} {fx : Nat} {x : Int32} (hc : CW f fx ffl ffn fpa) (h : ISP f x) (h1 : ¬ x = -1) : ∃ j, j < fx ∧ x = nI j := by
  rcases h with h | ⟨h2, h3⟩
  · exact absurd h h1
  · obtain ⟨j, hj, e⟩ := ix_le 15 (by decide) h2
    subst e
    obtain ⟨t1, t2⟩ := TH.nat (by omega) h3
    rcases Nat.lt_or_ge j fx with z | z
    · exact ⟨j, z, rfl⟩
    · exact absurd t2 (hc.2.2.2.1 j z (by omega))
theorem isp_of {f ffl ffn fpa : Nat → Int32} {fx j : Nat} (hc : CW f fx ffl ffn fpa) (hj : j < fx) : ISP f (nI j) := by
  have hfx := hc.2.1
  refine Or.inr ⟨fun z => ?_, TH.of (by omega) (hc.2.2.1 j hj).1⟩
  rcases z with z | z
  · exact nI_pos (by omega) z
  · have := (nI_ltI (a := 15) (b := j) (by omega) (by omega)).mp z; omega
/-- the new world, with the new row -/
theorem WR.fix {f g ffl ffn gl gn fkd fit fpa : Nat → Int32} {fx m n : Nat} (h : WR f fx ffl ffn fkd fit fpa) (hfx : fx < 16) (hf : ∀ j, (∀ i, i < 29 → j ≠ 29 * fx + i) → g j = f j) (h0 : g (29 * fx) = 1) (hg5 : ∀ p, p < 8 → g (29 * fx + 5 + 3 * p) = 0)
    (hn : n ≤ 3) (hgn : g (29 * fx + 1) = nI n) (hp : ∀ k, k < n → ∃ q, q < 32 ∧ g (29 * fx + 2 + k) = nI q ∧ f (29 * q) = 1)
    (ho : ∀ j, j < fx * 16 → gl j = ffl j) (hno : ∀ i, i < fx → gn i = ffn i) (hm : m ≤ fx + 1) (hme : gn fx = nI m) (hrow : rowl gl fx m = (LNE g fx).reverse) : WR g (fx + 1) gl gn fkd fit fpa := by
  obtain ⟨hc, hw, hu⟩ := h
  obtain ⟨⟨rk, hwp⟩, hfx2, hlo, hnot, hmd⟩ := hc
  have hO : WO f fx := ⟨⟨rk, hwp⟩, fun a h1 h2 => hnot a h1 h2⟩
  have hO2 : WO g (fx + 1) := hO.new (x := fx) (n := n) (by omega) (hO.2 fx (Nat.le_refl _) hfx) hn hgn hp hf (fun o h8 h9 => ⟨by omega, by omega⟩)
  have hs : SPT f g := fun a ha h1 i hi => hf _ (fun j hj => by have : a ≠ fx := fun z => hnot fx (Nat.le_refl _) hfx (by rw [← z]; exact h1); rcases Nat.lt_trichotomy a fx with z | z | z <;> omega)
  have e0 : ∀ a, a ≠ fx → g (29 * a) = f (29 * a) := fun a ha => hf _ (fun j hj => by rcases Nat.lt_trichotomy a fx with z | z | z <;> omega)
  have e5 : ∀ a, a ≠ fx → ∀ p i, p < 8 → i < 3 → g (29 * a + 5 + 3 * p + i) = f (29 * a + 5 + 3 * p + i) := fun a ha p i hp hi => hf _ (fun j hj => by rcases Nat.lt_trichotomy a fx with z | z | z <;> omega)
  refine ⟨⟨hO2.1, by omega, fun i hi => ?_, fun a h1 h2 => ?_, fun a h1 h2 => ?_⟩, fun a ha p hp8 => ?_, fun a h1 h2 p hp8 => ?_⟩
  · by_cases e : i = fx
    · subst e; exact ⟨h0, m, hm, hme, hrow⟩
    · obtain ⟨a1, m2, a2, a3, a4⟩ := hlo i (by omega)
      refine ⟨by rw [e0 i e]; exact a1, m2, a2, by rw [hno i (by omega)]; exact a3, ?_⟩
      rw [LNE_spt hwp hs (by omega) a1, ← a4]
      unfold rowl
      exact List.map_congr_left (fun k hk => by rw [ho _ (by have := List.mem_range.mp hk; omega)])
  · rw [e0 a (by omega)]; exact hnot a (by omega) h2
  · obtain ⟨b1, b2, b3⟩ := hmd a h1 h2
    refine ⟨b1, by rw [e0 a (by omega)]; exact b2, fun z => ?_⟩
    rw [e0 a (by omega)] at z
    rw [hs.pn h2 z, hs.pq h2 z (by decide)]
    exact b3 z
  · by_cases e : a = fx
    · subst e
      rw [hg5 p hp8]
      refine ⟨fun z => absurd z (by decide), fun _ => ?_⟩
      exact (hw a ha p hp8).2 (hu a (Nat.le_refl _) hfx p hp8)
    · have q0 := e5 a e p 0 hp8 (by decide)
      have q1 := e5 a e p 1 hp8 (by decide)
      have q2 := e5 a e p 2 hp8 (by decide)
      rw [show 29 * a + 5 + 3 * p + 0 = 29 * a + 5 + 3 * p from by omega] at q0
      rw [q0, q1, q2]
      exact hw a ha p hp8
  · have q0 := e5 a (by omega) p 0 hp8 (by decide)
    rw [show 29 * a + 5 + 3 * p + 0 = 29 * a + 5 + 3 * p from by omega] at q0
    rw [q0]; exact hu a (by omega) h2 p hp8
/-- the line that is gathered over parents k - 1 .. 0 -/
def GCH (f : Nat → Int32) (P : Nat → Nat) : Nat → List Nat → List Nat
  | 0, acc => acc
  | k + 1, acc => GCH f P k (EX acc (LNE f (P k)))
theorem GCH_rem {f g : Nat → Int32} {rk rg : Nat → Nat} {x n : Nat} {P : Nat → Nat} (hw : WP f rk) (hg : WP g rg) (hs : SPT f g) (hn : n ≤ 3) (hP : ∀ k, k < n → pqN g x k = P k ∧ P k < 32 ∧ f (29 * P k) = 1) : ∀ (k : Nat) (acc : List Nat), k ≤ n → PC g acc → remV (vis g 33) g x k acc = GCH f P k acc ++ [x] := by
  intro k
  induction k with
  | zero => intro acc _ _; rfl
  | succ k ih =>
    intro acc hk hc
    obtain ⟨e, p1, p2⟩ := hP k (by omega)
    have p3 : g (29 * P k) = 1 := (hs (P k) p1 p2 0 (by decide)).trans p2
    show remV (vis g 33) g x k (vis g 33 acc (pqN g x k)) = GCH f P k (EX acc (LNE f (P k))) ++ [x]
    obtain ⟨r, hr, hl⟩ := hg.norm
    have hcl := (vis_closed hr 33 acc (P k) p1 p3 (by have := hl (P k) p1; omega) hc).1
    rw [e, ← LNE_spt hw hs p1 p2, ← vis_gather hg hc p1 p3]
    exact ih _ (by omega) hcl
theorem LNE_new {f g : Nat → Int32} {rk rg : Nat → Nat} {x n : Nat} {P : Nat → Nat} (hw : WP f rk) (hg : WP g rg) (hs : SPT f g) (hx : x < 32) (hx1 : g (29 * x) = 1) (hn : n ≤ 3) (hgn : g (29 * x + 1) = nI n) (hP : ∀ k, k < n → g (29 * x + 2 + k) = nI (P k) ∧ P k < 32 ∧ f (29 * P k) = 1) : LNE g x = GCH f P n [] ++ [x] := by
  obtain ⟨r, hr, hl⟩ := hg.norm
  show vis g 33 [] x = _
  rw [vis_out hr hl hx hx1 List.not_mem_nil, pn_of hgn hn]
  exact GCH_rem hw hg hs hn (fun k hk => ⟨pq_of (hP k hk).1 (hP k hk).2.1, (hP k hk).2.1, (hP k hk).2.2⟩) n [] (Nat.le_refl _) (fun x hx => absurd hx List.not_mem_nil)
theorem EX_nil {acc : List Nat} : EX acc [] = acc := List.append_nil acc
theorem row_at2 {ffl : Nat → Int32} {L : List Nat} {i m k q : Nat} (h : rowl ffl i m = L.reverse) (h1 : 1 ≤ k) (hk : k ≤ m) (e : ffl (i * 16 + (k - 1)) = nI q) (hq : q < 32) : ∃ hl : m - k < L.length, L[m - k] = q := by
  obtain ⟨hm, hl, hv⟩ := row_at h (k := k - 1) (by omega) e hq
  have : ∀ (a : Nat) (ha : a = m - 1 - (k - 1)) (h2 : a < L.length), L[a] = q := by
    intro a ha h2
    subst ha
    exact hv
  exact ⟨by omega, this _ (by omega) _⟩
theorem FXR.step2 {ffl g : Nat → Int32} {fx k q le : Nat} {acc : List Nat} (h : FXR ffl g fx k acc) (hlen : acc.length = le) (hl : le - 1 - k < acc.length) (hq : acc[le - 1 - k] = q) : FXR ffl (upd g (fx * 16 + 1 + k) (nI q)) fx (k + 1) acc := by
  subst hlen
  exact h.step hl hq
theorem GAX.mem {g : Nat → Int32} {le fx : Nat} {b : Int32} {acc : List Nat} (h : GAX g le b fx acc) (hfx : fx ≤ 16) : ∀ x, x ∈ acc → x < fx := fun x hx => by
  rw [← h.2.1] at hx
  obtain ⟨i, hi, e⟩ := List.mem_map.mp hx
  obtain ⟨q, hq, eq⟩ := h.1.2.1 i (List.mem_range.mp hi)
  rw [eq, nI_clamp (by omega)] at e
  omega
theorem WR.obj {f ffl ffn gl gn fkd fit fpa : Nat → Int32} {fx n le : Nat} {a b c : Int32} {P : Nat → Nat} (h : WR f fx ffl ffn fkd fit fpa) (hfx : fx < 16) (hmn : MNY a b c = n) (hn : n ≤ 3) (hP : ∀ k, k < n → OBW f fx a b c (29 * fx + 2 + k) = nI (P k) ∧ P k < fx)
    (ho : ∀ j, j < fx * 16 → gl j = ffl j) (hno : ∀ i, i < fx → gn i = ffn i) (hle : le ≤ fx) (hme : gn fx = nI (le + 1)) (hrow : rowl gl fx (le + 1) = (GCH f P n [] ++ [fx]).reverse) : WR (OBW f fx a b c) (fx + 1) gl gn fkd fit fpa := by
  obtain ⟨b0, b1, -, -, -, b5⟩ := OBW_in (f := f) (fx := fx) (a := a) (b := b) (c := c)
  rw [hmn] at b1
  obtain ⟨⟨rk, hwp⟩, -, hlo, hnot, -⟩ := h.1
  have hp : ∀ k, k < n → ∃ q, q < 32 ∧ OBW f fx a b c (29 * fx + 2 + k) = nI q ∧ f (29 * q) = 1 := fun k hk => ⟨P k, by have := (hP k hk).2; omega, (hP k hk).1, (hlo _ (hP k hk).2).1⟩
  have hO : WO f fx := ⟨⟨rk, hwp⟩, fun a h1 h2 => hnot a h1 h2⟩
  obtain ⟨⟨rg, hg⟩, -⟩ := hO.new (x := fx) (n := n) (fx2 := fx + 1) (by omega) (hO.2 fx (Nat.le_refl _) hfx) hn b1 hp OBW_far (fun o h8 h9 => ⟨by omega, by omega⟩)
  have hs : SPT f (OBW f fx a b c) := fun x hx h1 i hi => OBW_far _ (fun j hj => by have : x ≠ fx := fun z => hnot fx (Nat.le_refl _) hfx (by rw [← z]; exact h1); rcases Nat.lt_trichotomy x fx with z | z | z <;> omega)
  refine h.fix hfx OBW_far b0 b5 hn b1 hp ho hno (by omega) hme ?_
  rw [LNE_new hwp hg hs (by omega) b0 hn b1 (fun k hk => ⟨(hP k hk).1, by have := (hP k hk).2; omega, (hlo _ (hP k hk).2).1⟩)]
  exact hrow
theorem lt8 {x : Int32} : 8 ≤ x ↔ 7 < x := by
  rw [Int32.le_iff_toInt_le, Int32.lt_iff_toInt_lt]
  have e1 : (8 : Int32).toInt = 8 := by decide
  have e2 : (7 : Int32).toInt = 7 := by decide
  omega
theorem lt300 {x : Int32} : x < 300 ↔ ¬ 299 < x := by
  rw [Int32.lt_iff_toInt_lt, Int32.lt_iff_toInt_lt]
  have e1 : (300 : Int32).toInt = 300 := by decide
  have e2 : (299 : Int32).toInt = 299 := by decide
  omega
theorem PRW_hi {f : Nat → Int32} {o p : Nat} {k v : Int32} (ho : o < 32) (hp : p < 8) : ∀ j, 928 ≤ j → PRW f o p k v j = f j := fun j hj => by
  unfold PRW
  by_cases e : k = -1
  · rw [if_pos e, pk_un (by omega)]
  · rw [if_neg e]; exact GIVE_hi ho hp j hj
theorem WR.prop {f ffl ffn fkd fit fpa : Nat → Int32} {fx o p : Nat} {k v x : Int32} (h : WR f fx ffl ffn fkd fit fpa) (ho : o < 32) (h1 : f (29 * o) = 1) (hp : p < 8) (hx : ¬ k = -1 → x = tv k (nrm k v)) : WR (PRW f o p k v) fx ffl ffn (upd fkd (o * 8 + p) k) (upd fit (o * 8 + p) x) fpa := by
  unfold PRW
  by_cases e : k = -1
  · rw [if_pos e, e]; exact h.take hp
  · rw [if_neg e, hx e]; exact h.give ho h1 hp e
theorem tvn1x {x : Int32} : (1 : Int32) = tv 1 (nrm 1 x) := by unfold tv nrm; rw [if_pos rfl]
theorem tvn2x {k v : Int32} (h : ¬ k = -1) (h0 : ¬ k = 0) (h1 : ¬ k = 1) (hk : ¬ (k < -1 ∨ 4 < k)) : v = tv k (nrm k v) := by
  have h2 : ¬ k < 2 := fun z => by
    have e1 : ¬ k < -1 := fun y => hk (Or.inl y)
    rw [Int32.lt_iff_toInt_lt] at z e1
    have a1 : (2 : Int32).toInt = 2 := by decide
    have a2 : (-1 : Int32).toInt = -1 := by decide
    have n1 : k.toInt ≠ -1 := fun y => h (Int32.toInt_inj.mp (y.trans a2.symm))
    have n2 : k.toInt ≠ 0 := fun y => h0 (Int32.toInt_inj.mp y)
    have n3 : k.toInt ≠ 1 := fun y => h1 (Int32.toInt_inj.mp y)
    omega
  unfold tv nrm
  rw [if_neg h1, if_neg h2]
