/-! the class's words in the reference's -/
def TV (fk fn : Nat → Int32) : Nat → Int32 := fun i => tv (fk i) (fn i)
def NRM (fk fn : Nat → Int32) : Prop := ∀ i, ¬ fk i = -1 ∧ (fk i < 2 → fn i = 0)
theorem TV_upd {fk fn : Nat → Int32} {i : Nat} {k n x : Int32} (h : x = tv k n) : upd (TV fk fn) i x = TV (upd fk i k) (upd fn i n) := by
  funext j
  by_cases e : j = i
  · subst e; unfold TV; rw [pk_us, pk_us, pk_us]; exact h
  · unfold TV; rw [pk_un e, pk_un e, pk_un e]
theorem tvn0 : (0 : Int32) = tv 0 (nrm 0 0) := by decide
theorem tvn1 : (1 : Int32) = tv 1 (nrm 1 0) := by decide
theorem tvn2 {x : Int32} : x = tv 2 (nrm 2 x) := by unfold tv nrm; rw [if_neg (by decide), if_neg (by decide)]
theorem tvn3 {x : Int32} : x = tv 3 (nrm 3 x) := by unfold tv nrm; rw [if_neg (by decide), if_neg (by decide)]
theorem tvn4 {x : Int32} : x = tv 4 (nrm 4 x) := by unfold tv nrm; rw [if_neg (by decide), if_neg (by decide)]
theorem nrm_id {k v : Int32} (h : k < 2 → v = 0) : nrm k v = v := by
  unfold nrm
  by_cases e : k < 2
  · rw [if_pos e, h e]
  · rw [if_neg e]
theorem NRM.tv {fk fn : Nat → Int32} (h : NRM fk fn) {i : Nat} : TV fk fn i = tv (fk i) (nrm (fk i) (fn i)) := by rw [nrm_id (h i).2]; rfl
theorem tv3 {v : Int32} : tv 3 v = v := by unfold tv; rw [if_neg (by decide)]
theorem TV_obj {fk fn : Nat → Int32} {i : Nat} (h : fk i = 3) : TV fk fn i = fn i := by unfold TV; rw [h, tv3]
theorem TV_num {fk fn : Nat → Int32} {i : Nat} (h : fk i = 2) : TV fk fn i = fn i := by unfold TV tv; rw [h, if_neg (by decide)]
theorem can_i {he fl n : Nat} (h1 : he ≤ 40) (h2 : fl ≤ 100) (h3 : n ≤ 1000) : nI he - nI n < nI fl ↔ ¬ fl + n ≤ he := by
  rcases Nat.lt_or_ge he n with z | z
  · have e : nI he - nI n < 0 := by
      have := nI_add (he - he) n
      have e1 : nI he - nI n = - nI (n - he) := by
        rw [show n = he + (n - he) from by omega, ← nI_add, show he + (n - he) - he = n - he from by omega]
        rw [Int32.sub_eq_add_neg, Int32.neg_add, Int32.sub_eq_add_neg, ← Int32.add_assoc, Int32.add_right_neg, Int32.zero_add]
      rw [e1]
      have e2 : ∀ m, m ≤ 1000 → 1 ≤ m → - nI m < 0 := by decide +kernel
      exact e2 _ (by omega) (by omega)
    refine ⟨fun _ => by omega, fun _ => ?_⟩
    have h0 : ¬ nI fl < 0 := nI_pos (by omega)
    rw [Int32.lt_iff_toInt_lt] at e h0 ⊢
    omega
  · rw [pk_sub z]
    rw [nI_ltI (by omega) (by omega)]
    omega
theorem tvn0x {x : Int32} : (0 : Int32) = tv 0 (nrm 0 x) := by unfold tv nrm; rw [if_neg (by decide), if_pos (by decide)]
theorem tvt1 {t : Int32} (h : t = 0 ∨ t = 1) (h0 : ¬ t = 0) : 1 = tv t (nrm t 0) := by rcases h with h | h; exact absurd h h0; subst h; decide
theorem tvt0 {t : Int32} (h0 : t = 0) : 0 = tv t (nrm t 0) := by subst h0; decide
theorem GOF_1 {d : Nat} {s : RS} : GOF d (1, s) = (1, SPL d s) := if_neg (show ¬ (1 : Int32) = 0 by decide)
theorem GOF_0 {d : Nat} {s : RS} : GOF d (0, s) = (0, s) := if_pos rfl
theorem like_i {fk fn : Nat → Int32} (h : NRM fk fn) {a b : Nat} (e : fk a = fk b) : TV fk fn a = TV fk fn b ↔ fn a = fn b := by
  unfold TV tv
  by_cases h1 : fk a = 1
  · rw [if_pos h1, if_pos (e.symm.trans h1)]
    refine ⟨fun _ => ?_, fun _ => rfl⟩
    rw [(h a).2 (by rw [h1]; decide), (h b).2 (by rw [← e, h1]; decide)]
  · rw [if_neg h1, if_neg (fun z => h1 (e.trans z))]
theorem sgn_b : ∀ b, b ≤ 255 → (nI b).toInt8.toInt32 = sgn b := by decide +kernel
theorem satv_ab {fb : Nat → Int32} {sz : Nat} {p : Int32} (hB : BY fb) (hs : sz ≤ 300) (h : ab fb sz p < 1000) : satv fb sz p = nI (ab fb sz p) ∧ ab fb sz p ≤ 255 := by
  obtain ⟨e, h1, h2⟩ := ab_in hB hs h
  rw [h2]
  refine ⟨?_, bs_le hB (by omega)⟩
  unfold satv
  rw [if_pos ⟨by rw [e]; exact nI_pos (by omega), h1⟩]
  exact bs_nI hB (by omega)
theorem satv_no {fb : Nat → Int32} {sz : Nat} {p : Int32} (hB : BY fb) (hs : sz ≤ 300) (h : ¬ ab fb sz p < 1000) : satv fb sz p = -1 := by
  unfold satv
  rw [if_neg]
  intro hc
  apply h
  unfold ab atv
  rw [if_pos hc]
  have := bs_le hB (j := p.toNatClampNeg) (by omega)
  unfold bs at this
  omega
theorem or_sh {a b : Nat} (ha : a ≤ 255) (hb : b ≤ 255) : nI a <<< (8 &&& 31) ||| nI b = nI (256 * a + b) := by
  apply Int32.toBitVec_inj.mp
  apply BitVec.eq_of_toNat_eq
  have e8 : (8 &&& 31 : Int32) = 8 := by decide
  rw [e8]
  show ((nI a).toBitVec <<< ((8 : Int32).toBitVec.smod 32) ||| (nI b).toBitVec).toNat = _
  have e9 : ((8 : Int32).toBitVec.smod 32) = 8#32 := by decide
  rw [e9]
  rw [BitVec.toNat_or, BitVec.shiftLeft_eq', BitVec.toNat_shiftLeft]
  have t : ∀ n, n < 65536 → (nI n).toBitVec.toNat = n := fun n hn => by
    show (BitVec.ofNat 32 n).toNat = n
    rw [BitVec.toNat_ofNat]; omega
  rw [t a (by omega), t b (by omega), t (256 * a + b) (by omega)]
  have e10 : (8#32).toNat = 8 := rfl
  rw [e10]
  have e11 : a <<< 8 % 2 ^ 32 = a <<< 8 := by rw [Nat.shiftLeft_eq]; omega
  rw [e11, ← Nat.shiftLeft_add_eq_or_of_lt (by omega), Nat.shiftLeft_eq]
  omega
