/-! THE CLAIM OUT OF ONE WALK OF THE LAW'S BODY. Your part is whole_start (and what it stands on); all else here is the same for every law, but numbers. -/
def R_law : String := "TaleMachineLaw"
def lw_P (b : Addr) (xs : List Int32) (args : Array Value) (s : State) : Prop := args = #[.ref b] ∧ s.IntsAt b xs ∧ xs.length ≤ 2560 ∧ (Jvm.Cond.and given_1 narrow_1).before args s = true
def lw_Q (_ : Array Value) (s : State) (o : Outcome) (t : State) : Prop := o = .returned (some (.int 1)) ∧ Framed s o t [] 601024 7293034
def lw_Z (below : List Frame) (a : Array Value) (s : State) : State → Prop := fun t => ∃ o, t.status = .running ∧ Ended t below o ∧ lw_Q a s o t
/-- the law's own end, with 1 on the stack, nothing written that was there before, its room as the claim has it -/
theorem lw_ret {p : Program} {l : Launch} {e : Env} {s : State} {m : MethodId} {below : List Frame} {meth : Method} {c : Code} {b : Nat} (hx : p.tables.exec = Jvm.exec) (hb : c.code = code) (hr : meth.sig.returnType = ret) (hlocks : meth.locks = false) {pc : Nat} {H : Heap} {ls : Array Slot} (hdg : decode code pc = .ok (.ireturn, 1)) : W p l e room_1 s m #[Value.ref b] below meth c H [] 601024 7293034 (lw_Z below #[Value.ref b] s) (F0 m pc ls [.int 1]) := by
  intro T hT X
  obtain ⟨fs, hret, hrun, hended, hW, hframe⟩ := X.leave (v := some (.int 1)) (hlocks := hlocks) (fun h => by rw [hr] at h; cases h)
  have hmeth' : T.vm.method? m = some meth := X.method'
  refine ⟨T.setFrames fs, ?_, .returned (some (.int 1)), hrun, hended, rfl, ⟨_, rfl⟩, hW, hframe⟩
  jvm_step X.here [X.here.top, hx, hb, hdg, hmeth', hr, ret, narrow_b1]
  (try refine ⟨rfl, ?_⟩); (try refine ⟨rfl, ?_⟩)
  first | (intro acts; rw [hret _ acts rfl rfl rfl]) | rw [hret _ _ rfl rfl rfl]
  exact Steps.refl _
/-- what holds at the law's entry: the machine, the code, the tables' words (any of lw_tbl by 'hts w (by decide +kernel)'), the script of L ints xs at the cell b, what the Statement gives of the start (any of its parts by flat_of_before) -/
def lw_At (p : Program) (s : State) (m : MethodId) (meth : Method) (c : Code) (b L : Nat) (xs : Nat → Int32) : Prop :=
  p.tables.exec = Jvm.exec ∧ c.code = code ∧ meth.sig.returnType = ret ∧ c.maxLocals = 7 ∧ s.vm.findClass R_law = some m.cls ∧ (∀ w ∈ lw_tbl, w.before #[Value.ref b] s = true) ∧ va_X b L xs s s.heap ∧ b < s.heap.size ∧ meth.locks = false ∧ (Jvm.Cond.and given_1 narrow_1).before #[Value.ref b] s = true
/-! what holds at the law's entry -/
theorem st_arr {ty : FieldType} {args : Array Value} {s : State} (h : (Cond.arrayClass ty).before args s = true) (hty : ∀ C, ty ≠ .object C) : ∃ cA : ClassId, ArrOfT s cA ty ∧ va_RA s cA ty := by
  obtain ⟨cA, kA, comp, h1, h2, h3⟩ := Cond.arrayClass_spec h
  refine ⟨cA, fun n z => ⟨fun k h => (by cases h), kA, h2, comp, h3⟩, ?_⟩
  cases ty <;> first | exact h1 | exact absurd rfl (hty _)
theorem sp_code (k : Int32) : k < 1 ∨ 4 < k ∨ k = 1 ∨ k = 2 ∨ k = 3 ∨ k = 4 := by
  have e1 : (1 : Int32).toInt = 1 := by decide
  have e2 : (2 : Int32).toInt = 2 := by decide
  have e3 : (3 : Int32).toInt = 3 := by decide
  have e4 : (4 : Int32).toInt = 4 := by decide
  have h : k.toInt < 1 ∨ 4 < k.toInt ∨ k.toInt = 1 ∨ k.toInt = 2 ∨ k.toInt = 3 ∨ k.toInt = 4 := by omega
  rcases h with h | h | h | h | h | h
  · exact Or.inl (Int32.lt_iff_toInt_lt.mpr (by omega))
  · exact Or.inr (Or.inl (Int32.lt_iff_toInt_lt.mpr (by omega)))
  · exact Or.inr (Or.inr (Or.inl (Int32.toInt_inj.mp (by omega))))
  · exact Or.inr (Or.inr (Or.inr (Or.inl (Int32.toInt_inj.mp (by omega)))))
  · exact Or.inr (Or.inr (Or.inr (Or.inr (Or.inl (Int32.toInt_inj.mp (by omega))))))
  · exact Or.inr (Or.inr (Or.inr (Or.inr (Or.inr (Int32.toInt_inj.mp (by omega))))))
theorem sp_show (k : Int32) : k = 0 ∨ k = 3 ∨ k = 4 ∨ k = 5 ∨ ((k < 0 ∨ 5 < k) ∨ k = 1 ∨ k = 2) := by
  have e0 : (0 : Int32).toInt = 0 := by decide
  have e1 : (1 : Int32).toInt = 1 := by decide
  have e2 : (2 : Int32).toInt = 2 := by decide
  have e3 : (3 : Int32).toInt = 3 := by decide
  have e4 : (4 : Int32).toInt = 4 := by decide
  have e5 : (5 : Int32).toInt = 5 := by decide
  have h : k.toInt = 0 ∨ k.toInt = 3 ∨ k.toInt = 4 ∨ k.toInt = 5 ∨ ((k.toInt < 0 ∨ 5 < k.toInt) ∨ k.toInt = 1 ∨ k.toInt = 2) := by omega
  rcases h with h | h | h | h | (h | h) | h | h
  · exact Or.inl (Int32.toInt_inj.mp (by omega))
  · exact Or.inr (Or.inl (Int32.toInt_inj.mp (by omega)))
  · exact Or.inr (Or.inr (Or.inl (Int32.toInt_inj.mp (by omega))))
  · exact Or.inr (Or.inr (Or.inr (Or.inl (Int32.toInt_inj.mp (by omega)))))
  · exact Or.inr (Or.inr (Or.inr (Or.inr (Or.inl (Or.inl (Int32.lt_iff_toInt_lt.mpr (by omega)))))))
  · exact Or.inr (Or.inr (Or.inr (Or.inr (Or.inl (Or.inr (Int32.lt_iff_toInt_lt.mpr (by omega)))))))
  · exact Or.inr (Or.inr (Or.inr (Or.inr (Or.inr (Or.inl (Int32.toInt_inj.mp (by omega)))))))
  · exact Or.inr (Or.inr (Or.inr (Or.inr (Or.inr (Or.inr (Int32.toInt_inj.mp (by omega)))))))
set_option maxHeartbeats 4000000 in
theorem st_K {args : Array Value} {s : State} (hts : ∀ w ∈ AW, w.before args s = true) : ∃ (D : va_G) (cI cZ cJ : ClassId), va_K D cL [(cI, .int), (cZ, .boolean), (cJ, .long)] s := by
  obtain ⟨c0, i0, h0⟩ := u_known (C := "TaleMachine$Frame") (T := F_Frame) (N := 8) hts in_Frame (hts (.instantiable "TaleMachine$Frame" 8) k_123)
  obtain ⟨c1, i1, h1⟩ := u_known (C := "TaleMachine$History") (T := F_History) (N := 4) hts in_History (hts (.instantiable "TaleMachine$History" 4) k_81)
  obtain ⟨c2, i2, h2⟩ := u_known (C := "TaleMachine$Script") (T := F_Script) (N := 2) hts in_Script (hts (.instantiable "TaleMachine$Script" 2) k_28)
  obtain ⟨c3, i3, h3⟩ := u_known (C := "TaleMachine$State") (T := F_State) (N := 3) hts in_State (hts (.instantiable "TaleMachine$State" 3) k_43)
  obtain ⟨c4, i4, h4⟩ := u_known (C := "TaleMachine$Teller") (T := F_Teller) (N := 9) hts in_Teller (hts (.instantiable "TaleMachine$Teller" 9) k_99)
  obtain ⟨c5, i5, h5⟩ := u_known (C := "TaleMachine$Values") (T := F_Values) (N := 3) hts in_Values (hts (.instantiable "TaleMachine$Values" 3) k_106)
  obtain ⟨c6, i6, h6⟩ := u_known (C := "TaleMachine$World") (T := F_World) (N := 9) hts in_World (hts (.instantiable "TaleMachine$World" 9) k_38)
  obtain ⟨c7, i7, h7⟩ := u_known (C := "TaleMachine") (T := F_TM) (N := 4) hts in_TM (hts (.instantiable "TaleMachine" 4) k_20)
  obtain ⟨c8, i8, h8⟩ := u_known (C := "TaleMachineModel") (T := F_Model) (N := 31) hts in_Model (hts (.instantiable "TaleMachineModel" 31) k_623)
  obtain ⟨cI, hI1, hI2⟩ := st_arr (hts (.arrayClass .int) k_36) (fun C h => by cases h)
  obtain ⟨cZ, hZ1, hZ2⟩ := st_arr (hts (.arrayClass .boolean) k_97) (fun C h => by cases h)
  obtain ⟨cJ, hJ1, hJ2⟩ := st_arr (hts (.arrayClass .long) k_865) (fun C h => by cases h)
  refine ⟨(fun k => match k with | 0 => c0 | 1 => c1 | 2 => c2 | 3 => c3 | 4 => c4 | 5 => c5 | 6 => c6 | 7 => c7 | _ => c8, fun k => match k with | 0 => i0 | 1 => i1 | 2 => i2 | 3 => i3 | 4 => i4 | 5 => i5 | 6 => i6 | 7 => i7 | _ => i8), cI, cZ, cJ, ?_, ?_⟩
  · intro k q hk
    match k, hk with
    | 0, hk => cases hk; exact h0
    | 1, hk => cases hk; exact h1
    | 2, hk => cases hk; exact h2
    | 3, hk => cases hk; exact h3
    | 4, hk => cases hk; exact h4
    | 5, hk => cases hk; exact h5
    | 6, hk => cases hk; exact h6
    | 7, hk => cases hk; exact h7
    | 8, hk => cases hk; exact h8
    | k + 9, hk => simp at hk
  · intro k q hk
    match k, hk with
    | 0, hk => cases hk; exact ⟨hI1, hI2⟩
    | 1, hk => cases hk; exact ⟨hZ1, hZ2⟩
    | 2, hk => cases hk; exact ⟨hJ1, hJ2⟩
    | k + 3, hk => simp at hk
theorem NJ_in : ∀ w ∈ NJ, w ∈ tables_1 := by
  have h : NJ.all (fun w => decide (w ∈ tables_1)) = true := by decide +kernel
  intro w hw
  exact of_decide_eq_true (List.all_eq_true.mp h w hw)
theorem st_str {b : Nat} {s : State} {k : Nat} {tx : String} (h1 : (Cond.stringRef "TaleMachine" k tx).before #[Value.ref b] s = true) (h2 : (Cond.exactly (.string "TaleMachine" k) "java/lang/String").before #[Value.ref b] s = true) : ∃ a : Nat, vk_R "TaleMachine" k tx a s := by
  obtain ⟨a, c, cA, kA, q1, -⟩ := Cond.exactly_spec h2
  refine ⟨a, h1, ?_⟩
  rw [Term.string_eval_of_vm (args := #[Value.ref b]) (U := s) rfl]
  exact q1
theorem st_T {b : Nat} {s : State} (htbl : ∀ w ∈ lw_tbl, w.before #[Value.ref b] s = true) (hgv : (Jvm.Cond.and given_1 narrow_1).before #[Value.ref b] s = true) : Tb s := by
  have ht : ∀ w ∈ tables_1, w.before #[Value.ref b] s = true := fun w hw => htbl w (List.mem_append_right _ hw)
  have hf := flat_of_before _ hgv
  refine ⟨fun w hw => va_Nw.of (List.all_eq_true.mp NJ_ok w hw |> fun h => (Bool.and_eq_true _ _ ▸ h).1) (ht w (NJ_in w hw)), ⟨va_Nw.of rfl (ht _ (by decide +kernel)), va_Nw.of rfl (ht _ (by decide +kernel)), va_Nw.of rfl (ht _ (by decide +kernel))⟩, ⟨va_AO.of (ht _ (by decide +kernel)), va_AO.of (ht _ (by decide +kernel))⟩, ?_⟩
  unfold vs_str vs_texts
  refine List.forall_mem_cons.mpr ⟨st_str (ht _ (by decide +kernel)) (hf _ (by decide +kernel)), List.forall_mem_cons.mpr ⟨st_str (ht _ (by decide +kernel)) (hf _ (by decide +kernel)), List.forall_mem_cons.mpr ⟨st_str (ht _ (by decide +kernel)) (hf _ (by decide +kernel)), List.forall_mem_cons.mpr ⟨st_str (ht _ (by decide +kernel)) (hf _ (by decide +kernel)), List.forall_mem_cons.mpr ⟨st_str (ht _ (by decide +kernel)) (hf _ (by decide +kernel)), List.forall_mem_cons.mpr ⟨st_str (ht _ (by decide +kernel)) (hf _ (by decide +kernel)), fun _ h => absurd h List.not_mem_nil⟩⟩⟩⟩⟩⟩
theorem st_Z {b : Nat} {s : State} (htbl : ∀ w ∈ lw_tbl, w.before #[Value.ref b] s = true) (hgv : (Jvm.Cond.and given_1 narrow_1).before #[Value.ref b] s = true) : vt_ZZ (fun q => s.heap.size ≤ q) s s.heap := by
  have ht : ∀ w ∈ tables_1, w.before #[Value.ref b] s = true := fun w hw => htbl w (List.mem_append_right _ hw)
  have hf := flat_of_before _ hgv
  exact ⟨vt_Z1.of (ht _ (by decide +kernel)) (hf _ (by decide +kernel)) (fun a h => Nat.not_le.mpr h), vt_Z1.of (ht _ (by decide +kernel)) (hf _ (by decide +kernel)) (fun a h => Nat.not_le.mpr h)⟩
theorem st_K2 {args : Array Value} {s : State} (hts : ∀ w ∈ AW, w.before args s = true) (hT : Tb s) : ∃ (D : va_G) (cI cZ cJ cS cF : ClassId), va_K D cL [(cI, .int), (cZ, .boolean), (cJ, .long), (cS, .object "TaleMachine$State"), (cF, .object "TaleMachine$Frame")] s := by
  obtain ⟨D, cI, cZ, cJ, hK⟩ := st_K hts
  obtain ⟨cS, s1, s2⟩ := ao_K (Tb_ao_State hT)
  obtain ⟨cF, f1, f2⟩ := ao_K (Tb_ao_Frame hT)
  refine ⟨D, cI, cZ, cJ, cS, cF, hK.1, fun k q hk => ?_⟩
  match k, hk with
  | 0, hk => exact hK.2 0 q hk
  | 1, hk => exact hK.2 1 q hk
  | 2, hk => exact hK.2 2 q hk
  | 3, hk => cases hk; exact ⟨s1, s2⟩
  | 4, hk => cases hk; exact ⟨f1, f2⟩
  | k + 5, hk => simp at hk
theorem NJ2_in : ∀ w ∈ NJ2, w ∈ tables_1 := by
  have h : NJ2.all (fun w => decide (w ∈ tables_1)) = true := by decide +kernel
  intro w hw
  exact of_decide_eq_true (List.all_eq_true.mp h w hw)
theorem st_Tc {b : Nat} {s : State} (htbl : ∀ w ∈ lw_tbl, w.before #[Value.ref b] s = true) (hgv : (Jvm.Cond.and given_1 narrow_1).before #[Value.ref b] s = true) : Tc s := by
  have ht : ∀ w ∈ tables_1, w.before #[Value.ref b] s = true := fun w hw => htbl w (List.mem_append_right _ hw)
  have hf := flat_of_before _ hgv
  refine ⟨⟨fun w hw => va_Nw.of (List.all_eq_true.mp NJ2_ok w hw |> fun h => (Bool.and_eq_true _ _ ▸ h).1) (ht w (NJ2_in w hw)), ncx_all (args := #[Value.ref b]) (List.forall_mem_cons.mpr ⟨hf _ (by decide +kernel), List.forall_mem_cons.mpr ⟨hf _ (by decide +kernel), List.forall_mem_cons.mpr ⟨hf _ (by decide +kernel), List.forall_mem_cons.mpr ⟨hf _ (by decide +kernel), List.forall_mem_cons.mpr ⟨hf _ (by decide +kernel), List.forall_mem_cons.mpr ⟨hf _ (by decide +kernel), fun _ h => absurd h List.not_mem_nil⟩⟩⟩⟩⟩⟩)⟩, va_Nw.of rfl (ht _ (by decide +kernel)), ?_⟩
  unfold vs_str2 vs_texts2
  refine List.forall_mem_cons.mpr ⟨st_str (ht _ (by decide +kernel)) (hf _ (by decide +kernel)), List.forall_mem_cons.mpr ⟨st_str (ht _ (by decide +kernel)) (hf _ (by decide +kernel)), List.forall_mem_cons.mpr ⟨st_str (ht _ (by decide +kernel)) (hf _ (by decide +kernel)), List.forall_mem_cons.mpr ⟨st_str (ht _ (by decide +kernel)) (hf _ (by decide +kernel)), fun _ h => absurd h List.not_mem_nil⟩⟩⟩⟩
theorem st_L {b : Nat} {s : State} (htbl : ∀ w ∈ lw_tbl, w.before #[Value.ref b] s = true) (hgv : (Jvm.Cond.and given_1 narrow_1).before #[Value.ref b] s = true) : vl_T (fun q => s.heap.size ≤ q) s s.heap := by
  have ht : ∀ w ∈ tables_1, w.before #[Value.ref b] s = true := fun w hw => htbl w (List.mem_append_right _ hw)
  have hf := flat_of_before _ hgv
  obtain ⟨t, h1, h2⟩ := va_Tof (tm := .static "TaleMachine$Script" "LENGTHS" "[I") (ty := .int) (N := 35) (f := fun i => .int (LEN35.getD i 0)) (A := fun q => s.heap.size ≤ q) (by decide) (hf _ (by decide +kernel)) (va_eqt (hf _ (by decide +kernel)))
    (fun j hj => match j, hj with
    | 0, _ => va_eqt (hf _ (by decide +kernel))
    | 1, _ => va_eqt (hf _ (by decide +kernel))
    | 2, _ => va_eqt (hf _ (by decide +kernel))
    | 3, _ => va_eqt (hf _ (by decide +kernel))
    | 4, _ => va_eqt (hf _ (by decide +kernel))
    | 5, _ => va_eqt (hf _ (by decide +kernel))
    | 6, _ => va_eqt (hf _ (by decide +kernel))
    | 7, _ => va_eqt (hf _ (by decide +kernel))
    | 8, _ => va_eqt (hf _ (by decide +kernel))
    | 9, _ => va_eqt (hf _ (by decide +kernel))
    | 10, _ => va_eqt (hf _ (by decide +kernel))
    | 11, _ => va_eqt (hf _ (by decide +kernel))
    | 12, _ => va_eqt (hf _ (by decide +kernel))
    | 13, _ => va_eqt (hf _ (by decide +kernel))
    | 14, _ => va_eqt (hf _ (by decide +kernel))
    | 15, _ => va_eqt (hf _ (by decide +kernel))
    | 16, _ => va_eqt (hf _ (by decide +kernel))
    | 17, _ => va_eqt (hf _ (by decide +kernel))
    | 18, _ => va_eqt (hf _ (by decide +kernel))
    | 19, _ => va_eqt (hf _ (by decide +kernel))
    | 20, _ => va_eqt (hf _ (by decide +kernel))
    | 21, _ => va_eqt (hf _ (by decide +kernel))
    | 22, _ => va_eqt (hf _ (by decide +kernel))
    | 23, _ => va_eqt (hf _ (by decide +kernel))
    | 24, _ => va_eqt (hf _ (by decide +kernel))
    | 25, _ => va_eqt (hf _ (by decide +kernel))
    | 26, _ => va_eqt (hf _ (by decide +kernel))
    | 27, _ => va_eqt (hf _ (by decide +kernel))
    | 28, _ => va_eqt (hf _ (by decide +kernel))
    | 29, _ => va_eqt (hf _ (by decide +kernel))
    | 30, _ => va_eqt (hf _ (by decide +kernel))
    | 31, _ => va_eqt (hf _ (by decide +kernel))
    | 32, _ => va_eqt (hf _ (by decide +kernel))
    | 33, _ => va_eqt (hf _ (by decide +kernel))
    | 34, _ => va_eqt (hf _ (by decide +kernel))
    | n + 35, h => absurd h (by omega)) (fun a h => Nat.not_le.mpr h)
  exact ⟨t, fun i => LEN35.getD i 0, va_Zref (ht _ (by decide +kernel)) (ht (.initialized "TaleMachine$Script") (by decide +kernel)) h1 (fun a h => Nat.not_le.mpr h), h2, fun _ _ => rfl⟩
def LI_ (D : va_G) (A : Nat → Prop) (H0 : Heap) (cI cZ cJ cS cF : ClassId) (fq : Nat → Nat) (fr : Nat) (tx : Nat) (sc : Nat) (wd : Nat) (hy : Nat) (te : Nat) (vv : Nat) (sy : Nat) (rs : Nat) (by_ : Nat) (st : Nat) (fl : Nat) (fnx : Nat) (li : Nat) (rc : Nat) (kd : Nat) (it : Nat) (pa : Nat) (vk : Nat) (vi : Nat) (yk : Nat) (yi : Nat) (ek : Nat) (ei : Nat) (pt : Nat) (sv : Nat) (is_ : Nat) (sp3 : Nat) (sp4 : Nat) (sk3 : Nat) (si3 : Nat) (sr3 : Nat) (sk4 : Nat) (si4 : Nat) (sr4 : Nat) (mm : Nat) (m_bytes : Nat) (m_w : Nat) (m_saved : Nat) (m_line : Nat) (m_met : Nat) (m_waiting : Nat) (m_nextParent : Nat) (m_kind : Nat) (m_number : Nat) (m_begin : Nat) (m_table : Nat) (m_handlers : Nat) (m_base : Nat) (m_locals : Nat) (m_self : Nat) (m_found : Nat) (m_place : Nat) (m_next : Nat) (m_saidKind : Nat) (m_saidNumber : Nat) (ou : Nat) (b L : Nat) (j9 : Nat) (H : Heap) (locs : List Loc) (ls : Array Slot) : Prop := ∃ u9 : (Nat → Int32) × (Nat → Int32) × (Nat → Int32) × (Nat → Int32) × (Nat → Int32) × (Nat → Int32) × (Nat → Int32) × (Nat → Int32) × (Nat) × (Int32) × (Nat) × (Nat → Int32) × (Nat) × (Nat) × (Nat) × (Int32) × (Nat → Int32) × (Nat → Int32) × (Nat → Int32) × (Nat → Int32) × (Nat → Int32) × (Nat → Int32) × (Nat → Int32) × (Nat) × (Nat → Int32) × (Nat → Int32) × (Nat) × (Nat → Int32) × (Nat → Int32) × (Nat) × (Nat → Int32) × (Nat → Int32) × (Nat) × (Nat) × (Nat) × (Nat) × (Nat) × (Nat) × (Nat) × (Nat → Int32) × (Nat → Int32) × (Nat → Int32) × (Nat) × (Nat) × (Nat) × (Nat → Int32) × (Nat → Int32) × (Nat → Int32) × (Nat) × (Nat) × (Nat) × (Nat → Int32) × (Nat → Int32) × (Nat → Int32) × (Nat → Int32) × (Nat → Int32) × (Nat → Int32) × (Nat → Int32) × (Nat → Int32) × (Nat → Int32) × (Nat → Int32) × (Int32) × (Nat) × (Int32) × (Int32) × (Nat → Int32) × (Nat → Int32) × (Nat → Int32) × (Nat → Int32) × (Nat → Int32) × (Nat → Int32) × (Nat → Int32) × (Nat → Int32) × (Nat → Int32) × (Nat → Int64), (match u9 with | (xm, fbe, fse, ffo, fpl, xh, fba, xl, de, en, sz_, fb, fx, le, rn_, rb, fpa, fkd, fit, ffl, ffn, fli, frc, he, fk, fn, sd, fsk, fsn, ce, j1, j2, po, sp0, sp1, sp2, sk0, si0, sr0, gk0, gi0, gr0, sk1, si1, sr1, gk1, gi1, gr1, sk2, si2, sr2, gk2, gi2, gr2, fs, gk3, gi3, gr3, gk4, gi4, gr4, Mkc, Mle, rk, rn, fw, Mfl, Mfm, Mfwa, Mfnp, fta, Mfha, flo, fne, fou) => (RI sz_ fx po he de sd en fb fw fs fba flo fta fbe ∧ REL de xm xl xh fta fba flo fne fk fn ce j1 j2 en rk rn fw fx ffl ffn fkd fit fpa po gk0 gi0 gr0 gk1 gi1 gr1 gk2 gi2 gr2 fs gk3 gi3 gr3 gk4 gi4 gr4 ∧ FXI ffl ffn fx ∧ 5 * j9 ≤ L) ∧ va_P D cL [fm fq xm fbe fse ffo fpl xh fba xl 0, fm fq xm fbe fse ffo fpl xh fba xl 1, fm fq xm fbe fse ffo fpl xh fba xl 2, fm fq xm fbe fse ffo fpl xh fba xl 3, fm fq xm fbe fse ffo fpl xh fba xl 4, fm fq xm fbe fse ffo fpl xh fba xl 5, fm fq xm fbe fse ffo fpl xh fba xl 6, fm fq xm fbe fse ffo fpl xh fba xl 7, (fr, .inl (cF, 8, .inr (.inr (.inr (.inr (F8 fq)))))), (tx, .inr (7, [.ref sc, .ref wd, .ref hy, .ref te])), (te, .inr (4, [.ref sc, .ref wd, .ref hy, .ref fr, .ref vv, .ref sy, .ref rs, .int (nI de), .int en])), (sc, .inr (2, [.ref by_, .int (nI sz_)])), (by_, .inl (cI, 300, .inl fb)), (wd, .inr (6, [.ref st, .int (nI fx), .ref fl, .ref fnx, .ref li, .int (nI le), .ref rc, .int (nI rn_), .int rb])), (st, .inr (3, [.ref kd, .ref it, .ref pa])), (pa, .inl (cI, 16, .inl fpa)), (kd, .inl (cI, 256, .inl fkd)), (it, .inl (cI, 256, .inl fit)), (fl, .inl (cI, 256, .inl ffl)), (fnx, .inl (cI, 16, .inl ffn)), (li, .inl (cI, 32, .inl fli)), (rc, .inl (cI, 32, .inl frc)), (vv, .inr (5, [.ref vk, .ref vi, .int (nI he)])), (vk, .inl (cI, 40, .inl fk)), (vi, .inl (cI, 40, .inl (TV fk fn))), (sy, .inr (5, [.ref yk, .ref yi, .int (nI sd)])), (yk, .inl (cI, 50, .inl fsk)), (yi, .inl (cI, 50, .inl (TV fsk fsn))), (rs, .inr (5, [.ref ek, .ref ei, .int (nI ce)])), (ek, .inl (cI, 1, .inl j1)), (ei, .inl (cI, 1, .inl j2)), (hy, .inr (1, [.ref pt, .ref sv, .ref is_, .int (nI po)])), (pt, .inl (cS, 3, .inr (.inr (.inr (.inr (T3 sp0 sp1 sp2)))))), (sp0, .inr (3, [.ref sk0, .ref si0, .ref sr0])), (sk0, .inl (cI, 256, .inl gk0)), (si0, .inl (cI, 256, .inl gi0)), (sr0, .inl (cI, 16, .inl gr0)), (sp1, .inr (3, [.ref sk1, .ref si1, .ref sr1])), (sk1, .inl (cI, 256, .inl gk1)), (si1, .inl (cI, 256, .inl gi1)), (sr1, .inl (cI, 16, .inl gr1)), (sp2, .inr (3, [.ref sk2, .ref si2, .ref sr2])), (sk2, .inl (cI, 256, .inl gk2)), (si2, .inl (cI, 256, .inl gi2)), (sr2, .inl (cI, 16, .inl gr2)), (sv, .inl (cS, 2, .inr (.inr (.inr (.inr (T2 sp3 sp4)))))), (is_, .inl (cZ, 2, .inl fs)), (sp3, .inr (3, [.ref sk3, .ref si3, .ref sr3])), (sk3, .inl (cI, 256, .inl gk3)), (si3, .inl (cI, 256, .inl gi3)), (sr3, .inl (cI, 16, .inl gr3)), (sp4, .inr (3, [.ref sk4, .ref si4, .ref sr4])), (sk4, .inl (cI, 256, .inl gk4)), (si4, .inl (cI, 256, .inl gi4)), (sr4, .inl (cI, 16, .inl gr4)), (mm, .inr (8, [.int Mkc, .ref m_bytes, .int (nI sz_), .ref m_w, .int (nI fx), .int (nI po), .ref m_saved, .int (nI Mle), .ref m_line, .ref m_met, .ref m_waiting, .ref m_nextParent, .int (nI he), .ref m_kind, .ref m_number, .int (nI de), .ref m_begin, .ref m_table, .ref m_handlers, .ref m_base, .ref m_locals, .ref m_self, .ref m_found, .ref m_place, .ref m_next, .int (nI sd), .ref m_saidKind, .ref m_saidNumber, .int rk, .int rn, .int en])), (m_bytes, .inl (cI, 300, .inl fb)), (m_w, .inl (cI, 5568, .inl fw)), (m_saved, .inl (cZ, 2, .inl fs)), (m_line, .inl (cI, 32, .inl Mfl)), (m_met, .inl (cZ, 32, .inl Mfm)), (m_waiting, .inl (cI, 40, .inl Mfwa)), (m_nextParent, .inl (cI, 40, .inl Mfnp)), (m_kind, .inl (cI, 40, .inl fk)), (m_number, .inl (cI, 40, .inl fn)), (m_begin, .inl (cI, 8, .inl fbe)), (m_table, .inl (cI, 8, .inl fta)), (m_handlers, .inl (cI, 8, .inl Mfha)), (m_base, .inl (cI, 8, .inl fba)), (m_locals, .inl (cI, 8, .inl flo)), (m_self, .inl (cI, 8, .inl fse)), (m_found, .inl (cI, 8, .inl ffo)), (m_place, .inl (cI, 8, .inl fpl)), (m_next, .inl (cI, 8, .inl fne)), (m_saidKind, .inl (cI, 50, .inl fsk)), (m_saidNumber, .inl (cI, 50, .inl fsn)), (ou, .inl (cJ, 1, .inr (.inl fou)))] H ∧ va_D A [fm fq xm fbe fse ffo fpl xh fba xl 0, fm fq xm fbe fse ffo fpl xh fba xl 1, fm fq xm fbe fse ffo fpl xh fba xl 2, fm fq xm fbe fse ffo fpl xh fba xl 3, fm fq xm fbe fse ffo fpl xh fba xl 4, fm fq xm fbe fse ffo fpl xh fba xl 5, fm fq xm fbe fse ffo fpl xh fba xl 6, fm fq xm fbe fse ffo fpl xh fba xl 7, (fr, .inl (cF, 8, .inr (.inr (.inr (.inr (F8 fq)))))), (tx, .inr (7, [.ref sc, .ref wd, .ref hy, .ref te])), (te, .inr (4, [.ref sc, .ref wd, .ref hy, .ref fr, .ref vv, .ref sy, .ref rs, .int (nI de), .int en])), (sc, .inr (2, [.ref by_, .int (nI sz_)])), (by_, .inl (cI, 300, .inl fb)), (wd, .inr (6, [.ref st, .int (nI fx), .ref fl, .ref fnx, .ref li, .int (nI le), .ref rc, .int (nI rn_), .int rb])), (st, .inr (3, [.ref kd, .ref it, .ref pa])), (pa, .inl (cI, 16, .inl fpa)), (kd, .inl (cI, 256, .inl fkd)), (it, .inl (cI, 256, .inl fit)), (fl, .inl (cI, 256, .inl ffl)), (fnx, .inl (cI, 16, .inl ffn)), (li, .inl (cI, 32, .inl fli)), (rc, .inl (cI, 32, .inl frc)), (vv, .inr (5, [.ref vk, .ref vi, .int (nI he)])), (vk, .inl (cI, 40, .inl fk)), (vi, .inl (cI, 40, .inl (TV fk fn))), (sy, .inr (5, [.ref yk, .ref yi, .int (nI sd)])), (yk, .inl (cI, 50, .inl fsk)), (yi, .inl (cI, 50, .inl (TV fsk fsn))), (rs, .inr (5, [.ref ek, .ref ei, .int (nI ce)])), (ek, .inl (cI, 1, .inl j1)), (ei, .inl (cI, 1, .inl j2)), (hy, .inr (1, [.ref pt, .ref sv, .ref is_, .int (nI po)])), (pt, .inl (cS, 3, .inr (.inr (.inr (.inr (T3 sp0 sp1 sp2)))))), (sp0, .inr (3, [.ref sk0, .ref si0, .ref sr0])), (sk0, .inl (cI, 256, .inl gk0)), (si0, .inl (cI, 256, .inl gi0)), (sr0, .inl (cI, 16, .inl gr0)), (sp1, .inr (3, [.ref sk1, .ref si1, .ref sr1])), (sk1, .inl (cI, 256, .inl gk1)), (si1, .inl (cI, 256, .inl gi1)), (sr1, .inl (cI, 16, .inl gr1)), (sp2, .inr (3, [.ref sk2, .ref si2, .ref sr2])), (sk2, .inl (cI, 256, .inl gk2)), (si2, .inl (cI, 256, .inl gi2)), (sr2, .inl (cI, 16, .inl gr2)), (sv, .inl (cS, 2, .inr (.inr (.inr (.inr (T2 sp3 sp4)))))), (is_, .inl (cZ, 2, .inl fs)), (sp3, .inr (3, [.ref sk3, .ref si3, .ref sr3])), (sk3, .inl (cI, 256, .inl gk3)), (si3, .inl (cI, 256, .inl gi3)), (sr3, .inl (cI, 16, .inl gr3)), (sp4, .inr (3, [.ref sk4, .ref si4, .ref sr4])), (sk4, .inl (cI, 256, .inl gk4)), (si4, .inl (cI, 256, .inl gi4)), (sr4, .inl (cI, 16, .inl gr4)), (mm, .inr (8, [.int Mkc, .ref m_bytes, .int (nI sz_), .ref m_w, .int (nI fx), .int (nI po), .ref m_saved, .int (nI Mle), .ref m_line, .ref m_met, .ref m_waiting, .ref m_nextParent, .int (nI he), .ref m_kind, .ref m_number, .int (nI de), .ref m_begin, .ref m_table, .ref m_handlers, .ref m_base, .ref m_locals, .ref m_self, .ref m_found, .ref m_place, .ref m_next, .int (nI sd), .ref m_saidKind, .ref m_saidNumber, .int rk, .int rn, .int en])), (m_bytes, .inl (cI, 300, .inl fb)), (m_w, .inl (cI, 5568, .inl fw)), (m_saved, .inl (cZ, 2, .inl fs)), (m_line, .inl (cI, 32, .inl Mfl)), (m_met, .inl (cZ, 32, .inl Mfm)), (m_waiting, .inl (cI, 40, .inl Mfwa)), (m_nextParent, .inl (cI, 40, .inl Mfnp)), (m_kind, .inl (cI, 40, .inl fk)), (m_number, .inl (cI, 40, .inl fn)), (m_begin, .inl (cI, 8, .inl fbe)), (m_table, .inl (cI, 8, .inl fta)), (m_handlers, .inl (cI, 8, .inl Mfha)), (m_base, .inl (cI, 8, .inl fba)), (m_locals, .inl (cI, 8, .inl flo)), (m_self, .inl (cI, 8, .inl fse)), (m_found, .inl (cI, 8, .inl ffo)), (m_place, .inl (cI, 8, .inl fpl)), (m_next, .inl (cI, 8, .inl fne)), (m_saidKind, .inl (cI, 50, .inl fsk)), (m_saidNumber, .inl (cI, 50, .inl fsn)), (ou, .inl (cJ, 1, .inr (.inl fou)))] ∧ va_S A H0 H locs ∧ lv_has ls 7 [(4, .int (nI (5 * j9))), (3, .ref ou), (2, .ref mm), (1, .ref tx), (0, .ref b)])

