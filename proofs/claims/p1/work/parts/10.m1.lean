set_option maxHeartbeats 4000000 in
set_option maxRecDepth 100000 in
theorem c_Model_outside (l : Launch) (D : va_G) (cI cZ cJ : ClassId) (v lo hi : Int32) (sz : Nat)  : Met l y_Model_outside (.code y_Model_outside prog_10_method_4_code 3 (some .boolean) :: AW) ({ frames := 0, cells := 0, slots := 0, locals := 0 }) (va_Pc [.int v, .int lo, .int hi] (pre_ D [] [(cI, .int), (cZ, .boolean), (cJ, .long)] sz)) (va_Qi (fun (r : Int32) (u : Unit) => (r = 0 ∨ r = 1) ∧ (r = 1 ↔ v < lo ∨ hi < v)) (fun _ t => post_ D (va_A [] sz) [] t) (va_A [] sz)) 0 0 (va_A [] sz) := by
  refine Met.ofW (cc := prog_10_method_4_code) (maxL := 3) (ret := (some .boolean)) (by decide) rfl ?_
  intro p e s m args below meth c s₁ B hml hv
  obtain ⟨rfl, rfl, hP, hK, hD0, hT⟩ := hv
  have hx := B.exec
  have hb := B.bytes
  have hr := B.returns
  have hts0 := atoms_spec (ws := .code y_Model_outside prog_10_method_4_code 3 (some .boolean) :: AW) B.pre
  have hts : ∀ w ∈ AW, w.before [.int v, .int lo, .int hi].toArray s = true := fun w h => hts0 w (List.mem_cons_of_mem _ h)
  have hown : s.vm.findClass "TaleMachineModel" = some m.cls := findClass_of_methodNamed B.named
  have hlocks := B.notSynchronized
  have hD := hD0.self (sz := s.heap.size)
  generalize hAe : va_A [] s.heap.size = A at hD ⊢
  have hA : ∀ q : Nat, s.heap.size ≤ q → A q := fun q h => by rw [← hAe]; exact Or.inr h
  have hS : va_S A s.heap s.heap [] := va_S.rf
  have hl := lv_entry ([.int v, .int lo, .int hi]) (n := 3) (Nat.le_of_ble_eq_true rfl)
  rw [lg_entry_eq]
  generalize (lg_sl ([.int v, .int lo, .int hi]) ++ List.replicate (3 - (lg_sl ([.int v, .int lo, .int hi])).length) Slot.unset).toArray = ls at hl ⊢
  have hl : lv_has ls 3 [(0, .int v), (1, .int lo), (2, .int hi)] := hl
  refine lv_iload_n hx hb d_Model_outside_0 rfl (lv_at hl 0 rfl) ?_
  refine lv_iload_n hx hb d_Model_outside_1 rfl (lv_at hl 1 rfl) ?_
  refine lv_icmp_lt hx hb d_Model_outside_2 (tgt := 10) (by decide) (fun hc1 => ?_) (fun hc1 => ?_)
  · refine lv_iconst (v := 1) hx hb d_Model_outside_10 (by decide) ?_
    refine lv_goto hx hb d_Model_outside_11 (tgt := 15) (by decide) ?_
    exact end_z hx hb hr hlocks hS (u := ()) (r := 1) (at_end (hP.sub (ws' := []) [] rfl) (hD.sub (ws' := []) [] (by decide) rfl)) (⟨Or.inr rfl, ⟨fun _ => Or.inl hc1, fun _ => rfl⟩⟩) (by decide) (Nat.le_of_ble_eq_true rfl) (Nat.le_of_ble_eq_true rfl) d_Model_outside_15
  · refine lv_iload_n hx hb d_Model_outside_5 rfl (lv_at hl 0 rfl) ?_
    refine lv_iload_n hx hb d_Model_outside_6 rfl (lv_at hl 2 rfl) ?_
    refine lv_icmp_le hx hb d_Model_outside_7 (tgt := 14) (by decide) (fun hc2 => ?_) (fun hc2 => ?_)
    · refine lv_iconst (v := 0) hx hb d_Model_outside_14 (by decide) ?_
      exact end_z hx hb hr hlocks hS (u := ()) (r := 0) (at_end (hP.sub (ws' := []) [] rfl) (hD.sub (ws' := []) [] (by decide) rfl)) (⟨Or.inl rfl, ⟨fun h => absurd h (by decide), fun h => by rcases h with h | h; exact absurd h hc1; exact absurd h (by have h2 := hc2; simp only [Int32.lt_iff_toInt_lt, Int32.le_iff_toInt_le] at h2 ⊢; omega)⟩⟩) (by decide) (Nat.le_of_ble_eq_true rfl) (Nat.le_of_ble_eq_true rfl) d_Model_outside_15
    · refine lv_iconst (v := 1) hx hb d_Model_outside_10 (by decide) ?_
      refine lv_goto hx hb d_Model_outside_11 (tgt := 15) (by decide) ?_
      exact end_z hx hb hr hlocks hS (u := ()) (r := 1) (at_end (hP.sub (ws' := []) [] rfl) (hD.sub (ws' := []) [] (by decide) rfl)) (⟨Or.inr rfl, ⟨fun _ => Or.inr (by have h := hc2; simp only [Int32.lt_iff_toInt_lt, Int32.le_iff_toInt_le] at h ⊢; omega), fun _ => rfl⟩⟩) (by decide) (Nat.le_of_ble_eq_true rfl) (Nat.le_of_ble_eq_true rfl) d_Model_outside_15

set_option maxHeartbeats 4000000 in
set_option maxRecDepth 100000 in
theorem c_Model_thrown (l : Launch) (D : va_G) (cI cZ cJ : ClassId) (h m_bytes m_w m_saved m_line m_met m_waiting m_nextParent m_kind m_number m_begin m_table m_handlers m_base m_locals m_self m_found m_place m_next m_saidKind m_saidNumber : Nat) (k : Int32) (sz : Nat)  : Met l y_Model_thrown (.code y_Model_thrown prog_10_method_2_code 1 (some .int) :: AW) ({ frames := 0, cells := 0, slots := 0, locals := 0 }) (va_Pc [.ref h] (pre_ D [(h, .inr (8, [.int k, .ref m_bytes, .int 0, .ref m_w, .int 0, .int 0, .ref m_saved, .int 0, .ref m_line, .ref m_met, .ref m_waiting, .ref m_nextParent, .int 0, .ref m_kind, .ref m_number, .int 0, .ref m_begin, .ref m_table, .ref m_handlers, .ref m_base, .ref m_locals, .ref m_self, .ref m_found, .ref m_place, .ref m_next, .int 0, .ref m_saidKind, .ref m_saidNumber, .int 0, .int 0, .int (-1)]))] [(cI, .int), (cZ, .boolean), (cJ, .long)] sz)) (va_Qi (fun (r : Int32) (u : Unit) => r = k) (fun _ t => post_ D (va_A [(h, .inr (8, [.int k, .ref m_bytes, .int 0, .ref m_w, .int 0, .int 0, .ref m_saved, .int 0, .ref m_line, .ref m_met, .ref m_waiting, .ref m_nextParent, .int 0, .ref m_kind, .ref m_number, .int 0, .ref m_begin, .ref m_table, .ref m_handlers, .ref m_base, .ref m_locals, .ref m_self, .ref m_found, .ref m_place, .ref m_next, .int 0, .ref m_saidKind, .ref m_saidNumber, .int 0, .int 0, .int (-1)]))] sz) [] t) (va_A [(h, .inr (8, [.int k, .ref m_bytes, .int 0, .ref m_w, .int 0, .int 0, .ref m_saved, .int 0, .ref m_line, .ref m_met, .ref m_waiting, .ref m_nextParent, .int 0, .ref m_kind, .ref m_number, .int 0, .ref m_begin, .ref m_table, .ref m_handlers, .ref m_base, .ref m_locals, .ref m_self, .ref m_found, .ref m_place, .ref m_next, .int 0, .ref m_saidKind, .ref m_saidNumber, .int 0, .int 0, .int (-1)]))] sz)) 0 0 (va_A [(h, .inr (8, [.int k, .ref m_bytes, .int 0, .ref m_w, .int 0, .int 0, .ref m_saved, .int 0, .ref m_line, .ref m_met, .ref m_waiting, .ref m_nextParent, .int 0, .ref m_kind, .ref m_number, .int 0, .ref m_begin, .ref m_table, .ref m_handlers, .ref m_base, .ref m_locals, .ref m_self, .ref m_found, .ref m_place, .ref m_next, .int 0, .ref m_saidKind, .ref m_saidNumber, .int 0, .int 0, .int (-1)]))] sz) := by
  refine Met.ofW (cc := prog_10_method_2_code) (maxL := 1) (ret := (some .int)) (by decide) rfl ?_
  intro p e s m args below meth c s₁ B hml hv
  obtain ⟨rfl, rfl, hP, hK, hD0, hT⟩ := hv
  have hx := B.exec
  have hb := B.bytes
  have hr := B.returns
  have hts0 := atoms_spec (ws := .code y_Model_thrown prog_10_method_2_code 1 (some .int) :: AW) B.pre
  have hts : ∀ w ∈ AW, w.before [.ref h].toArray s = true := fun w h => hts0 w (List.mem_cons_of_mem _ h)
  have hown : s.vm.findClass "TaleMachineModel" = some m.cls := findClass_of_methodNamed B.named
  have hlocks := B.notSynchronized
  have hD := hD0.self (sz := s.heap.size)
  generalize hAe : va_A [(h, .inr (8, [.int k, .ref m_bytes, .int 0, .ref m_w, .int 0, .int 0, .ref m_saved, .int 0, .ref m_line, .ref m_met, .ref m_waiting, .ref m_nextParent, .int 0, .ref m_kind, .ref m_number, .int 0, .ref m_begin, .ref m_table, .ref m_handlers, .ref m_base, .ref m_locals, .ref m_self, .ref m_found, .ref m_place, .ref m_next, .int 0, .ref m_saidKind, .ref m_saidNumber, .int 0, .int 0, .int (-1)]))] s.heap.size = A at hD ⊢
  have hA : ∀ q : Nat, s.heap.size ≤ q → A q := fun q h => by rw [← hAe]; exact Or.inr h
  have hS : va_S A s.heap s.heap [] := va_S.rf
  have hl := lv_entry ([.ref h]) (n := 1) (Nat.le_of_ble_eq_true rfl)
  rw [lg_entry_eq]
  generalize (lg_sl ([.ref h]) ++ List.replicate (1 - (lg_sl ([.ref h])).length) Slot.unset).toArray = ls at hl ⊢
  have hl : lv_has ls 1 [(0, .ref h)] := hl
  refine lv_aload_n hx hb d_Model_thrown_0 rfl (lv_at hl 0 rfl) ?_
  refine va_get (D := D) (ci := 8) (v := .int k) (C := "TaleMachineModel") (T := F_Model) (N := 31) hx hb hts in_Model hown hK hP 0 rfl rfl 0 (by decide) (hts _ k_0) (fun _ h9 => h9) rfl d_Model_thrown_1 ?_
  exact end_i hx hb hr hlocks hS (u := ()) (r := k) (at_end (hP.sub (ws' := []) [] rfl) (hD.sub (ws' := []) [] (by decide) rfl)) (rfl) (Nat.le_of_ble_eq_true rfl) (Nat.le_of_ble_eq_true rfl) d_Model_thrown_4

set_option maxHeartbeats 4000000 in
set_option maxRecDepth 100000 in
theorem c_Model_refuse (l : Launch) (D : va_G) (cI cZ cJ : ClassId) (h m_bytes m_w m_saved m_line m_met m_waiting m_nextParent m_kind m_number m_begin m_table m_handlers m_base m_locals m_self m_found m_place m_next m_saidKind m_saidNumber : Nat) (k : Int32) (sz : Nat)  : Met l y_Model_refuse (.code y_Model_refuse prog_10_method_3_code 2 (some .int) :: AW) ({ frames := 0, cells := 0, slots := 0, locals := 0 }) (va_Pc [.ref h, .int k] (pre_ D [(h, .inr (8, [.int 0, .ref m_bytes, .int 0, .ref m_w, .int 0, .int 0, .ref m_saved, .int 0, .ref m_line, .ref m_met, .ref m_waiting, .ref m_nextParent, .int 0, .ref m_kind, .ref m_number, .int 0, .ref m_begin, .ref m_table, .ref m_handlers, .ref m_base, .ref m_locals, .ref m_self, .ref m_found, .ref m_place, .ref m_next, .int 0, .ref m_saidKind, .ref m_saidNumber, .int 0, .int 0, .int (-1)]))] [(cI, .int), (cZ, .boolean), (cJ, .long)] sz)) (va_Qi (fun (r : Int32) (u : Unit) => r = 0) (fun _ t => post_ D (va_A [(h, .inr (8, [.int 0, .ref m_bytes, .int 0, .ref m_w, .int 0, .int 0, .ref m_saved, .int 0, .ref m_line, .ref m_met, .ref m_waiting, .ref m_nextParent, .int 0, .ref m_kind, .ref m_number, .int 0, .ref m_begin, .ref m_table, .ref m_handlers, .ref m_base, .ref m_locals, .ref m_self, .ref m_found, .ref m_place, .ref m_next, .int 0, .ref m_saidKind, .ref m_saidNumber, .int 0, .int 0, .int (-1)]))] sz) [(h, .inr (8, [.int k, .ref m_bytes, .int 0, .ref m_w, .int 0, .int 0, .ref m_saved, .int 0, .ref m_line, .ref m_met, .ref m_waiting, .ref m_nextParent, .int 0, .ref m_kind, .ref m_number, .int 0, .ref m_begin, .ref m_table, .ref m_handlers, .ref m_base, .ref m_locals, .ref m_self, .ref m_found, .ref m_place, .ref m_next, .int 0, .ref m_saidKind, .ref m_saidNumber, .int 0, .int 0, .int (-1)]))] t) (va_A [(h, .inr (8, [.int 0, .ref m_bytes, .int 0, .ref m_w, .int 0, .int 0, .ref m_saved, .int 0, .ref m_line, .ref m_met, .ref m_waiting, .ref m_nextParent, .int 0, .ref m_kind, .ref m_number, .int 0, .ref m_begin, .ref m_table, .ref m_handlers, .ref m_base, .ref m_locals, .ref m_self, .ref m_found, .ref m_place, .ref m_next, .int 0, .ref m_saidKind, .ref m_saidNumber, .int 0, .int 0, .int (-1)]))] sz)) 0 0 (va_A [(h, .inr (8, [.int 0, .ref m_bytes, .int 0, .ref m_w, .int 0, .int 0, .ref m_saved, .int 0, .ref m_line, .ref m_met, .ref m_waiting, .ref m_nextParent, .int 0, .ref m_kind, .ref m_number, .int 0, .ref m_begin, .ref m_table, .ref m_handlers, .ref m_base, .ref m_locals, .ref m_self, .ref m_found, .ref m_place, .ref m_next, .int 0, .ref m_saidKind, .ref m_saidNumber, .int 0, .int 0, .int (-1)]))] sz) := by
  refine Met.ofW (cc := prog_10_method_3_code) (maxL := 2) (ret := (some .int)) (by decide) rfl ?_
  intro p e s m args below meth c s₁ B hml hv
  obtain ⟨rfl, rfl, hP, hK, hD0, hT⟩ := hv
  have hx := B.exec
  have hb := B.bytes
  have hr := B.returns
  have hts0 := atoms_spec (ws := .code y_Model_refuse prog_10_method_3_code 2 (some .int) :: AW) B.pre
  have hts : ∀ w ∈ AW, w.before [.ref h, .int k].toArray s = true := fun w h => hts0 w (List.mem_cons_of_mem _ h)
  have hown : s.vm.findClass "TaleMachineModel" = some m.cls := findClass_of_methodNamed B.named
  have hlocks := B.notSynchronized
  have hD := hD0.self (sz := s.heap.size)
  generalize hAe : va_A [(h, .inr (8, [.int 0, .ref m_bytes, .int 0, .ref m_w, .int 0, .int 0, .ref m_saved, .int 0, .ref m_line, .ref m_met, .ref m_waiting, .ref m_nextParent, .int 0, .ref m_kind, .ref m_number, .int 0, .ref m_begin, .ref m_table, .ref m_handlers, .ref m_base, .ref m_locals, .ref m_self, .ref m_found, .ref m_place, .ref m_next, .int 0, .ref m_saidKind, .ref m_saidNumber, .int 0, .int 0, .int (-1)]))] s.heap.size = A at hD ⊢
  have hA : ∀ q : Nat, s.heap.size ≤ q → A q := fun q h => by rw [← hAe]; exact Or.inr h
  have hS : va_S A s.heap s.heap [] := va_S.rf
  have hl := lv_entry ([.ref h, .int k]) (n := 2) (Nat.le_of_ble_eq_true rfl)
  rw [lg_entry_eq]
  generalize (lg_sl ([.ref h, .int k]) ++ List.replicate (2 - (lg_sl ([.ref h, .int k])).length) Slot.unset).toArray = ls at hl ⊢
  have hl : lv_has ls 2 [(0, .ref h), (1, .int k)] := hl
  refine lv_aload_n hx hb d_Model_refuse_0 rfl (lv_at hl 0 rfl) ?_
  refine lv_iload_n hx hb d_Model_refuse_1 rfl (lv_at hl 1 rfl) ?_
  refine va_put (D := D) (ci := 8) (v := .int k) (ty := .int) (C := "TaleMachineModel") (T := F_Model) (N := 31) hx hb hts in_Model t_Model t_Model_ok n_Model hown hK hP hD hS 0 rfl rfl 0 (by decide) (hts _ k_0) (fun _ h9 => h9) rfl (by decide +kernel) rfl rfl (Nat.le_of_ble_eq_true rfl) d_Model_refuse_2 (fun H locs hP hD hS => ?_)
  have hP : va_P D cL [(h, .inr (8, [.int k, .ref m_bytes, .int 0, .ref m_w, .int 0, .int 0, .ref m_saved, .int 0, .ref m_line, .ref m_met, .ref m_waiting, .ref m_nextParent, .int 0, .ref m_kind, .ref m_number, .int 0, .ref m_begin, .ref m_table, .ref m_handlers, .ref m_base, .ref m_locals, .ref m_self, .ref m_found, .ref m_place, .ref m_next, .int 0, .ref m_saidKind, .ref m_saidNumber, .int 0, .int 0, .int (-1)]))] H := hP
  have hD : va_D A [(h, .inr (8, [.int k, .ref m_bytes, .int 0, .ref m_w, .int 0, .int 0, .ref m_saved, .int 0, .ref m_line, .ref m_met, .ref m_waiting, .ref m_nextParent, .int 0, .ref m_kind, .ref m_number, .int 0, .ref m_begin, .ref m_table, .ref m_handlers, .ref m_base, .ref m_locals, .ref m_self, .ref m_found, .ref m_place, .ref m_next, .int 0, .ref m_saidKind, .ref m_saidNumber, .int 0, .int 0, .int (-1)]))] := hD
  refine lv_iconst (v := 0) hx hb d_Model_refuse_5 (by decide) ?_
  exact end_i hx hb hr hlocks hS (u := ()) (r := 0) (at_end (hP.sub (ws' := [(h, .inr (8, [.int k, .ref m_bytes, .int 0, .ref m_w, .int 0, .int 0, .ref m_saved, .int 0, .ref m_line, .ref m_met, .ref m_waiting, .ref m_nextParent, .int 0, .ref m_kind, .ref m_number, .int 0, .ref m_begin, .ref m_table, .ref m_handlers, .ref m_base, .ref m_locals, .ref m_self, .ref m_found, .ref m_place, .ref m_next, .int 0, .ref m_saidKind, .ref m_saidNumber, .int 0, .int 0, .int (-1)]))]) [0] rfl) (hD.sub (ws' := [(h, .inr (8, [.int k, .ref m_bytes, .int 0, .ref m_w, .int 0, .int 0, .ref m_saved, .int 0, .ref m_line, .ref m_met, .ref m_waiting, .ref m_nextParent, .int 0, .ref m_kind, .ref m_number, .int 0, .ref m_begin, .ref m_table, .ref m_handlers, .ref m_base, .ref m_locals, .ref m_self, .ref m_found, .ref m_place, .ref m_next, .int 0, .ref m_saidKind, .ref m_saidNumber, .int 0, .int 0, .int (-1)]))]) [0] (by decide) rfl)) (rfl) (Nat.le_of_ble_eq_true rfl) (Nat.le_of_ble_eq_true rfl) d_Model_refuse_6
