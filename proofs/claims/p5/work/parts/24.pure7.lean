/-! ===== Int32 by its bits: bt x i ===== -/
def bt (x : Int32) (i : Nat) : Bool := x.toBitVec.getLsbD i
theorem b_ext {x y : Int32} (h : ∀ i, i < 32 → bt x i = bt y i) : x = y := Int32.toBitVec_inj.mp (BitVec.eq_of_getLsbD_eq (fun i hi => h i hi))
theorem b_or (x y : Int32) (i : Nat) : bt (x ||| y) i = (bt x i || bt y i) := by unfold bt; rw [Int32.toBitVec_or, BitVec.getLsbD_or]
theorem b_and (x y : Int32) (i : Nat) : bt (x &&& y) i = (bt x i && bt y i) := by unfold bt; rw [Int32.toBitVec_and, BitVec.getLsbD_and]
theorem b_xor (x y : Int32) (i : Nat) : bt (x ^^^ y) i = (bt x i ^^ bt y i) := by unfold bt; rw [Int32.toBitVec_xor, BitVec.getLsbD_xor]
theorem b_big {x : Int32} {i : Nat} (h : 32 ≤ i) : bt x i = false := BitVec.getLsbD_of_ge _ _ h
theorem b_255 (i : Nat) : bt 255 i = decide (i < 8) := by
  rcases Nat.lt_or_ge i 32 with h | h
  · exact (by decide +kernel : ∀ i, i < 32 → bt 255 i = decide (i < 8)) i h
  · rw [b_big h, decide_eq_false (by omega)]
theorem b_65535 (i : Nat) : bt 65535 i = decide (i < 16) := by
  rcases Nat.lt_or_ge i 32 with h | h
  · exact (by decide +kernel : ∀ i, i < 32 → bt 65535 i = decide (i < 16)) i h
  · rw [b_big h, decide_eq_false (by omega)]
theorem b_m1 : ∀ i, i < 32 → bt (-1) i = true := by decide +kernel
theorem b_0 (i : Nat) : bt 0 i = false := BitVec.getLsbD_zero
theorem s_l : ∀ n, n < 32 → ((nI n &&& 31).toBitVec.smod 32).toNat = n := by decide +kernel
theorem s_u : ∀ n, n < 32 → (((nI n).toUInt32 &&& Int32.toUInt32 31).toBitVec % 32).toNat = n := by decide +kernel
theorem b_shl (n : Nat) (hn : n < 32) (x : Int32) {i : Nat} (hi : i < 32) : bt (x <<< (nI n &&& 31)) i = (decide (n ≤ i) && bt x (i - n)) := by
  unfold bt
  rw [Int32.toBitVec_shiftLeft]
  show (x.toBitVec <<< ((nI n &&& 31).toBitVec.smod 32).toNat).getLsbD i = _
  rw [s_l n hn, BitVec.getLsbD_shiftLeft]
  rcases Nat.lt_or_ge i n with h | h
  · simp [h, Nat.not_le.mpr h]
  · simp [hi, h, Nat.not_lt.mpr h]
theorem b_ushr (n : Nat) (hn : n < 32) (x : Int32) (i : Nat) : bt ((x.toUInt32 >>> ((nI n).toUInt32 &&& Int32.toUInt32 31)).toInt32) i = bt x (n + i) := by
  show (x.toUInt32 >>> ((nI n).toUInt32 &&& Int32.toUInt32 31)).toBitVec.getLsbD i = x.toUInt32.toBitVec.getLsbD (n + i)
  rw [UInt32.toBitVec_shiftRight]
  show (x.toUInt32.toBitVec >>> (((nI n).toUInt32 &&& Int32.toUInt32 31).toBitVec % 32).toNat).getLsbD i = _
  rw [s_u n hn, BitVec.getLsbD_ushiftRight]
theorem b_sshr (n : Nat) (hn : n < 32) (x : Int32) {i : Nat} (hi : i < 32) : bt (x >>> (nI n &&& 31)) i = if n + i < 32 then bt x (n + i) else bt x 31 := by
  unfold bt
  rw [Int32.toBitVec_shiftRight]
  show (x.toBitVec.sshiftRight ((nI n &&& 31).toBitVec.smod 32).toNat).getLsbD i = _
  rw [s_l n hn, BitVec.getLsbD_sshiftRight, BitVec.msb_eq_getLsbD_last]
  simp [hi]
theorem b_shl8 (x : Int32) {i : Nat} (hi : i < 32) : bt (x <<< ((8 : Int32) &&& 31)) i = (decide (8 ≤ i) && bt x (i - 8)) := b_shl 8 (by omega) x hi
theorem b_shl16 (x : Int32) {i : Nat} (hi : i < 32) : bt (x <<< ((16 : Int32) &&& 31)) i = (decide (16 ≤ i) && bt x (i - 16)) := b_shl 16 (by omega) x hi
theorem b_shl24 (x : Int32) {i : Nat} (hi : i < 32) : bt (x <<< ((24 : Int32) &&& 31)) i = (decide (24 ≤ i) && bt x (i - 24)) := b_shl 24 (by omega) x hi
theorem b_sshr8 (x : Int32) {i : Nat} (hi : i < 32) : bt (x >>> ((8 : Int32) &&& 31)) i = if 8 + i < 32 then bt x (8 + i) else bt x 31 := b_sshr 8 (by omega) x hi
/-! bits as sets, counting, loops with a measure -/
theorem b_1 (i : Nat) : bt 1 i = decide (i = 0) := by
  rcases Nat.lt_or_ge i 32 with h | h
  · exact (by decide +kernel : ∀ i, i < 32 → bt 1 i = decide (i = 0)) i h
  · rw [b_big h, decide_eq_false (by omega)]
theorem b_one {o i : Nat} (ho : o < 32) (hi : i < 32) : bt (1 <<< (nI o &&& 31)) i = decide (i = o) := by
  rw [b_shl o ho 1 hi, b_1]
  by_cases h : i = o
  · subst h; simp
  · by_cases h2 : o ≤ i
    · have : ¬ i - o = 0 := by omega
      simp [h, h2, this]
    · simp [h, h2]
theorem b_and1 (y : Int32) : (bt y 0 = true → y &&& 1 = 1) ∧ (bt y 0 = false → y &&& 1 = 0) := by
  refine ⟨fun h => b_ext fun i _ => ?_, fun h => b_ext fun i _ => ?_⟩
  · rw [b_and, b_1]
    by_cases hi : i = 0
    · subst hi; simp [h]
    · simp [hi]
  · rw [b_and, b_1, b_0]
    by_cases hi : i = 0
    · subst hi; simp [h]
    · simp [hi]
theorem b_test {x : Int32} {q : Nat} (hq : q < 32) : (x >>> (nI q &&& 31) &&& 1 = 1 ↔ bt x q = true) ∧ (x >>> (nI q &&& 31) &&& 1 = 0 ↔ bt x q = false) := by
  have e : bt (x >>> (nI q &&& 31)) 0 = bt x q := by
    rw [b_sshr q hq x (by decide : 0 < 32)]
    simp [hq]
  have h := b_and1 (x >>> (nI q &&& 31))
  rw [e] at h
  cases hb : bt x q
  · have h0 := h.2 hb
    rw [h0]
    exact ⟨⟨fun z => absurd z (by decide), fun z => absurd z (by decide)⟩, ⟨fun _ => rfl, fun _ => rfl⟩⟩
  · have h0 := h.1 hb
    rw [h0]
    exact ⟨⟨fun _ => rfl, fun _ => rfl⟩, ⟨fun z => absurd z (by decide), fun z => absurd z (by decide)⟩⟩
theorem b_utest {x : Int32} {q : Nat} (hq : q < 32) : ((x.toUInt32 >>> ((nI q).toUInt32 &&& Int32.toUInt32 31)).toInt32 &&& 1 = 0 ↔ bt x q = false) := by
  have e : bt ((x.toUInt32 >>> ((nI q).toUInt32 &&& Int32.toUInt32 31)).toInt32) 0 = bt x q := by
    rw [b_ushr q hq x 0]
    rfl
  have h := b_and1 ((x.toUInt32 >>> ((nI q).toUInt32 &&& Int32.toUInt32 31)).toInt32)
  rw [e] at h
  cases hb : bt x q
  · rw [h.2 hb]
    exact ⟨fun _ => rfl, fun _ => rfl⟩
  · rw [h.1 hb]
    exact ⟨fun z => absurd z (by decide), fun z => absurd z (by decide)⟩
theorem b_add {x : Int32} {o i : Nat} (ho : o < 32) (hi : i < 32) : bt (x ||| 1 <<< (nI o &&& 31)) i = (bt x i || decide (i = o)) := by
  rw [b_or, b_one ho hi]
/-- how many below n -/
def cnt (s : Nat → Bool) : Nat → Nat
  | 0 => 0
  | n + 1 => cnt s n + (if s n then 1 else 0)
theorem cnt_le (s : Nat → Bool) (n : Nat) : cnt s n ≤ n := by
  induction n with
  | zero => exact Nat.le_refl 0
  | succ n ih => show cnt s n + _ ≤ n + 1; split <;> omega
theorem cnt_congr {s t : Nat → Bool} {n : Nat} (h : ∀ i, i < n → s i = t i) : cnt s n = cnt t n := by
  induction n with
  | zero => rfl
  | succ n ih => show cnt s n + _ = cnt t n + _; rw [ih (fun i hi => h i (by omega)), h n (by omega)]
theorem cnt_mono {s t : Nat → Bool} {n : Nat} (h : ∀ i, i < n → s i = true → t i = true) : cnt s n ≤ cnt t n := by
  induction n with
  | zero => exact Nat.le_refl 0
  | succ n ih =>
    show cnt s n + _ ≤ cnt t n + _
    have h1 := ih (fun i hi => h i (by omega))
    have h2 := h n (by omega)
    cases hs : s n
    · simp; omega
    · simp [h2 hs]; omega
theorem cnt_add {s t : Nat → Bool} {n o : Nat} (ho : o < n) (h0 : s o = false) (h1 : t o = true) (h : ∀ i, i < n → i ≠ o → t i = s i) : cnt t n = cnt s n + 1 := by
  induction n with
  | zero => omega
  | succ n ih =>
    show cnt t n + _ = cnt s n + _ + 1
    by_cases hn : o = n
    · subst hn
      rw [cnt_congr (n := o) (fun i hi => h i (by omega) (by omega)), h0, h1]
      simp
    · rw [ih (by omega) (fun i hi => h i (by omega)), h n (by omega) (by omega)]
      omega
theorem cnt_lt {s : Nat → Bool} {n o : Nat} (ho : o < n) (h0 : s o = false) : cnt s n < n := by
  have h1 := cnt_add (t := fun i => if i = o then true else s i) ho h0 (by simp) (fun i _ hi => by simp [hi])
  have h2 := cnt_le (fun i => if i = o then true else s i) n
  omega
def bc (x : Int32) : Nat := cnt (bt x) 32
theorem bc_le (x : Int32) : bc x ≤ 32 := cnt_le _ _
theorem bc_add {x : Int32} {o : Nat} (ho : o < 32) (h : bt x o = false) : bc (x ||| 1 <<< (nI o &&& 31)) = bc x + 1 :=
  cnt_add ho h (by rw [b_add ho ho]; simp) (fun i hi hne => by rw [b_add ho hi]; simp [hne])
theorem bc_lt {x : Int32} {o : Nat} (ho : o < 32) (h : bt x o = false) : bc x < 32 := cnt_lt ho h
def SUP (a b : Int32) : Prop := ∀ i, i < 32 → bt a i = true → bt b i = true
theorem SUP.rf {a : Int32} : SUP a a := fun _ _ h => h
theorem SUP.add {a b : Int32} {o : Nat} (h : SUP a b) (ho : o < 32) : SUP a (b ||| 1 <<< (nI o &&& 31)) := fun i hi hb => by rw [b_add ho hi, h i hi hb]; rfl
theorem bc_grow {a b : Int32} (h : SUP a b) (hne : ¬ b = a) : bc a < bc b := by
  have h1 : bc a ≤ bc b := cnt_mono h
  rcases Nat.lt_or_ge (bc a) (bc b) with h2 | h2
  · exact h2
  · exfalso
    apply hne
    refine b_ext fun i hi => ?_
    cases hb : bt b i
    · cases ha : bt a i
      · rfl
      · rw [h i hi ha] at hb; exact absurd hb (by decide)
    · cases ha : bt a i
      · have h3 : bc (a ||| 1 <<< (nI i &&& 31)) ≤ bc b := cnt_mono (fun j hj hh => by
          rw [b_add hi hj] at hh
          by_cases hji : j = i
          · subst hji; exact hb
          · simp [hji] at hh; exact h j hj hh)
        rw [bc_add hi ha] at h3
        omega
      · rfl
theorem sw_no {x : Int32} (n : Nat) (hn : n < 1000) (h : ∀ k, k ≤ n → ¬ x = nI k) : x.toInt < 0 ∨ (n : Int) < x.toInt := by
  by_cases h0 : x < 0
  · exact Or.inl (by simpa [Int32.lt_iff_toInt_lt] using h0)
  · obtain ⟨j, hj, rfl⟩ := nI_of h0
    refine Or.inr ?_
    rw [nI_toInt hj]
    have : ¬ j ≤ n := fun z => h j z rfl
    omega
theorem sd_ix {n : Nat} {x : Int32} (hs : n ≤ 300) (h : ¬ (x < -1 ∨ nI n - 1 < x)) (h1 : ¬ x = -1) : ∃ j, j < n ∧ x = nI j := by
  refine at_ix hs (fun z => h ?_)
  rcases z with z | z
  · refine Or.inl ?_
    have e1 : (-1 : Int32).toInt = -1 := by decide
    have e0 : (0 : Int32).toInt = 0 := by decide
    have h2 : ¬ x.toInt = -1 := fun w => h1 (Int32.toInt_inj.mp (by rw [w, e1]))
    simp only [Int32.lt_iff_toInt_lt, e1, e0] at z ⊢
    omega
  · exact Or.inr z
/-- descending counters -/
def DM (x : Int32) (n : Nat) : Prop := x = nI n - 1
theorem DM.pos {x : Int32} {n : Nat} (h : DM x n) (hn : n < 1000) (h0 : ¬ x < 0) : 1 ≤ n ∧ x = nI (n - 1) := by
  cases n with
  | zero => exact absurd (by rw [h]; decide) h0
  | succ n => exact ⟨by omega, by rw [h, nI_pred]; rfl⟩
theorem DM.neg {x : Int32} {n : Nat} (h : DM x n) (hn : n < 1000) (h0 : x < 0) : n = 0 := by
  cases n with
  | zero => rfl
  | succ n => rw [h, nI_pred] at h0; exact absurd h0 (nI_pos (by omega))
theorem DM.dec {n : Nat} (h : 1 ≤ n) : DM (nI (n - 1) + (-1)) (n - 1) := by
  show _ = nI (n - 1) - 1
  rw [Int32.sub_eq_add_neg]
def DN (x : Int32) (n : Nat) : Prop := DM x n ∨ (x = -2 ∧ n = 0)
theorem DN.pos {x : Int32} {n : Nat} (h : DN x n) (hn : n < 1000) (h0 : ¬ x < 0) : 1 ≤ n ∧ x = nI (n - 1) := by
  rcases h with h | ⟨h, -⟩
  · exact h.pos hn h0
  · exact absurd (by rw [h]; decide) h0
theorem DN.dec {n : Nat} (h : 1 ≤ n) : DN (nI (n - 1) + (-1)) (n - 1) := Or.inl (DM.dec h)
theorem DN.two {x : Int32} {n : Nat} (h : DM x n) (hn : n < 1000) (h0 : x < 0) : DN (x + (-1)) 0 := by
  have e := h.neg hn h0
  subst e
  refine Or.inr ⟨?_, rfl⟩
  rw [h]; decide
theorem kz {n : Nat} (hn : n < 1000) (h : ¬ 0 ≤ nI n - 1) : n = 0 := by
  cases n with
  | zero => rfl
  | succ n => rw [nI_pred] at h; exact absurd (nI_pos' (by omega)) h
theorem kp {n : Nat} (hn : n < 1000) (h : 0 ≤ nI n - 1) : 1 ≤ n ∧ nI n - 1 = nI (n - 1) := by
  cases n with
  | zero => exact absurd h (by decide)
  | succ n => exact ⟨by omega, by rw [nI_pred]; rfl⟩
theorem nI_dec {n : Nat} (h : 1 ≤ n) : nI n + Int32.ofInt (-1) = nI (n - 1) := by
  cases n with
  | zero => omega
  | succ n =>
    have e : nI (n + 1) + Int32.ofInt (-1) = nI (n + 1) - 1 := by
      rw [Int32.sub_eq_add_neg]; rfl
    rw [e, nI_pred]; rfl
section VS7
variable {p : Program} {l : Launch} {e : Env} {R : Room} {s : State} {m : MethodId} {args : Array Value} {below : List Frame} {meth : Method} {c : Code} {H : Heap} {locs : List Loc} {cells slots : Nat} {Q : State → Prop}
variable {pc : Nat} {ls : Array Slot} {rest : List Value} {A : Nat → Prop} {H0 : Heap} {D : va_G} {ws : va_W} {cc : ByteArray} {tys : List (ClassId × FieldType)} {a : Nat}
theorem lp_M {I : Nat → Heap → List Loc → Array Slot → Prop}
    (body : ∀ (n : Nat) (H : Heap) (locs : List Loc) (ls : Array Slot), I n H locs ls → (∀ n1, n1 < n → ∀ (H1 : Heap) (locs1 : List Loc) (ls1 : Array Slot), I n1 H1 locs1 ls1 → W p l e R s m args below meth c H1 locs1 cells slots Q (F0 m pc ls1 [])) → W p l e R s m args below meth c H locs cells slots Q (F0 m pc ls [])) :
    ∀ (n : Nat) (H : Heap) (locs : List Loc) (ls : Array Slot), I n H locs ls → W p l e R s m args below meth c H locs cells slots Q (F0 m pc ls []) := by
  intro n
  induction n using Nat.strongRecOn with
  | _ n ih => exact fun H locs ls hI => body n H locs ls hI (fun n1 h1 H1 l1 s1 hI1 => ih n1 h1 H1 l1 s1 hI1)
end VS7
