set_option maxHeartbeats 4000000 in
set_option maxRecDepth 100000 in
theorem c_Model_outside (l : Launch) (D : va_G) (cI cZ cJ : ClassId) (v lo hi : Int32) (sz : Nat)  : Met l y_Model_outside (.code y_Model_outside prog_10_method_4_code 3 (some .boolean) :: AW) ({ frames := 0, cells := 0, slots := 0, locals := 0 }) (va_Pc [.int v, .int lo, .int hi] (pre_ D [] [(cI, .int), (cZ, .boolean), (cJ, .long)] sz)) (va_Qi (fun (r : Int32) (u : Unit) => (r = 0 ∨ r = 1) ∧ (r = 1 ↔ v < lo ∨ hi < v)) (fun _ t => post_ D (va_A [] sz) [] t) (va_A [] sz)) 0 0 (va_A [] sz) := by
  refine Met.ofW (cc := prog_10_method_4_code) (maxL := 3) (ret := (some .boolean)) (by decide) rfl ?_
  intro p e s m args below meth c s₁ B hml hv
  obtain ⟨rfl, rfl, hP, hK, hD0, hT⟩ := hv
  have hx := B.exec
  have hb := B.bytes
  have hr := B.returns
  have hts0 := atoms_spec (ws := .code y_Model_outside prog_10_method_4_code 3 (some .boolean) :: AW) B.pre
  have hts : ∀ w ∈ AW, w.before [.int v, .int lo, .int hi].toArray s = true := fun w h => hts0 w (List.mem_cons_of_mem _ h)
  have hown : s.vm.findClass "TaleMachineModel" = some m.cls := findClass_of_methodNamed B.named
  have hlocks := B.notSynchronized
  have hD := hD0.self (sz := s.heap.size)
  generalize hAe : va_A [] s.heap.size = A at hD ⊢
  have hA : ∀ q : Nat, s.heap.size ≤ q → A q := fun q h => by rw [← hAe]; exact Or.inr h
  have hS : va_S A s.heap s.heap [] := va_S.rf
  have hl := lv_entry ([.int v, .int lo, .int hi]) (n := 3) (Nat.le_of_ble_eq_true rfl)
  rw [lg_entry_eq]
  generalize (lg_sl ([.int v, .int lo, .int hi]) ++ List.replicate (3 - (lg_sl ([.int v, .int lo, .int hi])).length) Slot.unset).toArray = ls at hl ⊢
  have hl : lv_has ls 3 [(0, .int v), (1, .int lo), (2, .int hi)] := hl
  refine lv_iload_n hx hb d_Model_outside_0 rfl (lv_at hl 0 rfl) ?_
  refine lv_iload_n hx hb d_Model_outside_1 rfl (lv_at hl 1 rfl) ?_
  refine lv_icmp_lt hx hb d_Model_outside_2 (tgt := 10) (by decide) (fun hc1 => ?_) (fun hc1 => ?_)
  · refine lv_iconst (v := 1) hx hb d_Model_outside_10 (by decide) ?_
    refine lv_goto hx hb d_Model_outside_11 (tgt := 15) (by decide) ?_
    exact end_z hx hb hr hlocks hS (u := ()) (r := 1) (at_end (hP.sub (ws' := []) [] rfl) (hD.sub (ws' := []) [] (by decide) rfl)) (⟨Or.inr rfl, ⟨fun _ => Or.inl hc1, fun _ => rfl⟩⟩) (by decide) (Nat.le_of_ble_eq_true rfl) (Nat.le_of_ble_eq_true rfl) d_Model_outside_15
  · refine lv_iload_n hx hb d_Model_outside_5 rfl (lv_at hl 0 rfl) ?_
    refine lv_iload_n hx hb d_Model_outside_6 rfl (lv_at hl 2 rfl) ?_
    refine lv_icmp_le hx hb d_Model_outside_7 (tgt := 14) (by decide) (fun hc2 => ?_) (fun hc2 => ?_)
    · refine lv_iconst (v := 0) hx hb d_Model_outside_14 (by decide) ?_
      exact end_z hx hb hr hlocks hS (u := ()) (r := 0) (at_end (hP.sub (ws' := []) [] rfl) (hD.sub (ws' := []) [] (by decide) rfl)) (⟨Or.inl rfl, ⟨fun h => absurd h (by decide), fun h => by rcases h with h | h; exact absurd h hc1; exact absurd h (by have h2 := hc2; simp only [Int32.lt_iff_toInt_lt, Int32.le_iff_toInt_le] at h2 ⊢; omega)⟩⟩) (by decide) (Nat.le_of_ble_eq_true rfl) (Nat.le_of_ble_eq_true rfl) d_Model_outside_15
    · refine lv_iconst (v := 1) hx hb d_Model_outside_10 (by decide) ?_
      refine lv_goto hx hb d_Model_outside_11 (tgt := 15) (by decide) ?_
      exact end_z hx hb hr hlocks hS (u := ()) (r := 1) (at_end (hP.sub (ws' := []) [] rfl) (hD.sub (ws' := []) [] (by decide) rfl)) (⟨Or.inr rfl, ⟨fun _ => Or.inr (by have h := hc2; simp only [Int32.lt_iff_toInt_lt, Int32.le_iff_toInt_le] at h ⊢; omega), fun _ => rfl⟩⟩) (by decide) (Nat.le_of_ble_eq_true rfl) (Nat.le_of_ble_eq_true rfl) d_Model_outside_15

set_option maxHeartbeats 4000000 in
set_option maxRecDepth 100000 in
theorem c_Model_thrown (l : Launch) (D : va_G) (cI cZ cJ : ClassId) (h m_bytes m_w m_saved m_line m_met m_waiting m_nextParent m_kind m_number m_begin m_table m_handlers m_base m_locals m_self m_found m_place m_next m_saidKind m_saidNumber : Nat) (i_code i_size i_fixed i_points i_length i_height i_depth i_said i_resultKind i_resultNumber i_ended : Int32) (sz : Nat)  : Met l y_Model_thrown (.code y_Model_thrown prog_10_method_2_code 1 (some .int) :: AW) ({ frames := 0, cells := 0, slots := 0, locals := 0 }) (va_Pc [.ref h] (pre_ D [(h, .inr (8, [.int i_code, .ref m_bytes, .int i_size, .ref m_w, .int i_fixed, .int i_points, .ref m_saved, .int i_length, .ref m_line, .ref m_met, .ref m_waiting, .ref m_nextParent, .int i_height, .ref m_kind, .ref m_number, .int i_depth, .ref m_begin, .ref m_table, .ref m_handlers, .ref m_base, .ref m_locals, .ref m_self, .ref m_found, .ref m_place, .ref m_next, .int i_said, .ref m_saidKind, .ref m_saidNumber, .int i_resultKind, .int i_resultNumber, .int i_ended]))] [(cI, .int), (cZ, .boolean), (cJ, .long)] sz)) (va_Qi (fun (r : Int32) (u : Unit) => r = i_code) (fun _ t => post_ D (va_A [(h, .inr (8, [.int i_code, .ref m_bytes, .int i_size, .ref m_w, .int i_fixed, .int i_points, .ref m_saved, .int i_length, .ref m_line, .ref m_met, .ref m_waiting, .ref m_nextParent, .int i_height, .ref m_kind, .ref m_number, .int i_depth, .ref m_begin, .ref m_table, .ref m_handlers, .ref m_base, .ref m_locals, .ref m_self, .ref m_found, .ref m_place, .ref m_next, .int i_said, .ref m_saidKind, .ref m_saidNumber, .int i_resultKind, .int i_resultNumber, .int i_ended]))] sz) [] t) (va_A [(h, .inr (8, [.int i_code, .ref m_bytes, .int i_size, .ref m_w, .int i_fixed, .int i_points, .ref m_saved, .int i_length, .ref m_line, .ref m_met, .ref m_waiting, .ref m_nextParent, .int i_height, .ref m_kind, .ref m_number, .int i_depth, .ref m_begin, .ref m_table, .ref m_handlers, .ref m_base, .ref m_locals, .ref m_self, .ref m_found, .ref m_place, .ref m_next, .int i_said, .ref m_saidKind, .ref m_saidNumber, .int i_resultKind, .int i_resultNumber, .int i_ended]))] sz)) 0 0 (va_A [(h, .inr (8, [.int i_code, .ref m_bytes, .int i_size, .ref m_w, .int i_fixed, .int i_points, .ref m_saved, .int i_length, .ref m_line, .ref m_met, .ref m_waiting, .ref m_nextParent, .int i_height, .ref m_kind, .ref m_number, .int i_depth, .ref m_begin, .ref m_table, .ref m_handlers, .ref m_base, .ref m_locals, .ref m_self, .ref m_found, .ref m_place, .ref m_next, .int i_said, .ref m_saidKind, .ref m_saidNumber, .int i_resultKind, .int i_resultNumber, .int i_ended]))] sz) := by
  refine Met.ofW (cc := prog_10_method_2_code) (maxL := 1) (ret := (some .int)) (by decide) rfl ?_
  intro p e s m args below meth c s₁ B hml hv
  obtain ⟨rfl, rfl, hP, hK, hD0, hT⟩ := hv
  have hx := B.exec
  have hb := B.bytes
  have hr := B.returns
  have hts0 := atoms_spec (ws := .code y_Model_thrown prog_10_method_2_code 1 (some .int) :: AW) B.pre
  have hts : ∀ w ∈ AW, w.before [.ref h].toArray s = true := fun w h => hts0 w (List.mem_cons_of_mem _ h)
  have hown : s.vm.findClass "TaleMachineModel" = some m.cls := findClass_of_methodNamed B.named
  have hlocks := B.notSynchronized
  have hD := hD0.self (sz := s.heap.size)
  generalize hAe : va_A [(h, .inr (8, [.int i_code, .ref m_bytes, .int i_size, .ref m_w, .int i_fixed, .int i_points, .ref m_saved, .int i_length, .ref m_line, .ref m_met, .ref m_waiting, .ref m_nextParent, .int i_height, .ref m_kind, .ref m_number, .int i_depth, .ref m_begin, .ref m_table, .ref m_handlers, .ref m_base, .ref m_locals, .ref m_self, .ref m_found, .ref m_place, .ref m_next, .int i_said, .ref m_saidKind, .ref m_saidNumber, .int i_resultKind, .int i_resultNumber, .int i_ended]))] s.heap.size = A at hD ⊢
  have hA : ∀ q : Nat, s.heap.size ≤ q → A q := fun q h => by rw [← hAe]; exact Or.inr h
  have hS : va_S A s.heap s.heap [] := va_S.rf
  have hl := lv_entry ([.ref h]) (n := 1) (Nat.le_of_ble_eq_true rfl)
  rw [lg_entry_eq]
  generalize (lg_sl ([.ref h]) ++ List.replicate (1 - (lg_sl ([.ref h])).length) Slot.unset).toArray = ls at hl ⊢
  have hl : lv_has ls 1 [(0, .ref h)] := hl
  refine lv_aload_n hx hb d_Model_thrown_0 rfl (lv_at hl 0 rfl) ?_
  refine va_get (D := D) (ci := 8) (v := .int i_code) (C := "TaleMachineModel") (T := F_Model) (N := 31) hx hb hts in_Model hown hK hP 0 rfl rfl 0 (by decide) (hts _ k_0) (fun _ h9 => h9) rfl d_Model_thrown_1 ?_
  exact end_i hx hb hr hlocks hS (u := ()) (r := i_code) (at_end (hP.sub (ws' := []) [] rfl) (hD.sub (ws' := []) [] (by decide) rfl)) (rfl) (Nat.le_of_ble_eq_true rfl) (Nat.le_of_ble_eq_true rfl) d_Model_thrown_4

set_option maxHeartbeats 4000000 in
set_option maxRecDepth 100000 in
theorem c_Model_refuse (l : Launch) (D : va_G) (cI cZ cJ : ClassId) (h m_bytes m_w m_saved m_line m_met m_waiting m_nextParent m_kind m_number m_begin m_table m_handlers m_base m_locals m_self m_found m_place m_next m_saidKind m_saidNumber : Nat) (k : Int32) (sz : Nat)  : Met l y_Model_refuse (.code y_Model_refuse prog_10_method_3_code 2 (some .int) :: AW) ({ frames := 0, cells := 0, slots := 0, locals := 0 }) (va_Pc [.ref h, .int k] (pre_ D [(h, .inr (8, [.int 0, .ref m_bytes, .int 0, .ref m_w, .int 0, .int 0, .ref m_saved, .int 0, .ref m_line, .ref m_met, .ref m_waiting, .ref m_nextParent, .int 0, .ref m_kind, .ref m_number, .int 0, .ref m_begin, .ref m_table, .ref m_handlers, .ref m_base, .ref m_locals, .ref m_self, .ref m_found, .ref m_place, .ref m_next, .int 0, .ref m_saidKind, .ref m_saidNumber, .int 0, .int 0, .int (-1)]))] [(cI, .int), (cZ, .boolean), (cJ, .long)] sz)) (va_Qi (fun (r : Int32) (u : Unit) => r = 0) (fun _ t => post_ D (va_A [(h, .inr (8, [.int 0, .ref m_bytes, .int 0, .ref m_w, .int 0, .int 0, .ref m_saved, .int 0, .ref m_line, .ref m_met, .ref m_waiting, .ref m_nextParent, .int 0, .ref m_kind, .ref m_number, .int 0, .ref m_begin, .ref m_table, .ref m_handlers, .ref m_base, .ref m_locals, .ref m_self, .ref m_found, .ref m_place, .ref m_next, .int 0, .ref m_saidKind, .ref m_saidNumber, .int 0, .int 0, .int (-1)]))] sz) [(h, .inr (8, [.int k, .ref m_bytes, .int 0, .ref m_w, .int 0, .int 0, .ref m_saved, .int 0, .ref m_line, .ref m_met, .ref m_waiting, .ref m_nextParent, .int 0, .ref m_kind, .ref m_number, .int 0, .ref m_begin, .ref m_table, .ref m_handlers, .ref m_base, .ref m_locals, .ref m_self, .ref m_found, .ref m_place, .ref m_next, .int 0, .ref m_saidKind, .ref m_saidNumber, .int 0, .int 0, .int (-1)]))] t) (va_A [(h, .inr (8, [.int 0, .ref m_bytes, .int 0, .ref m_w, .int 0, .int 0, .ref m_saved, .int 0, .ref m_line, .ref m_met, .ref m_waiting, .ref m_nextParent, .int 0, .ref m_kind, .ref m_number, .int 0, .ref m_begin, .ref m_table, .ref m_handlers, .ref m_base, .ref m_locals, .ref m_self, .ref m_found, .ref m_place, .ref m_next, .int 0, .ref m_saidKind, .ref m_saidNumber, .int 0, .int 0, .int (-1)]))] sz)) 0 0 (va_A [(h, .inr (8, [.int 0, .ref m_bytes, .int 0, .ref m_w, .int 0, .int 0, .ref m_saved, .int 0, .ref m_line, .ref m_met, .ref m_waiting, .ref m_nextParent, .int 0, .ref m_kind, .ref m_number, .int 0, .ref m_begin, .ref m_table, .ref m_handlers, .ref m_base, .ref m_locals, .ref m_self, .ref m_found, .ref m_place, .ref m_next, .int 0, .ref m_saidKind, .ref m_saidNumber, .int 0, .int 0, .int (-1)]))] sz) := by
  refine Met.ofW (cc := prog_10_method_3_code) (maxL := 2) (ret := (some .int)) (by decide) rfl ?_
  intro p e s m args below meth c s₁ B hml hv
  obtain ⟨rfl, rfl, hP, hK, hD0, hT⟩ := hv
  have hx := B.exec
  have hb := B.bytes
  have hr := B.returns
  have hts0 := atoms_spec (ws := .code y_Model_refuse prog_10_method_3_code 2 (some .int) :: AW) B.pre
  have hts : ∀ w ∈ AW, w.before [.ref h, .int k].toArray s = true := fun w h => hts0 w (List.mem_cons_of_mem _ h)
  have hown : s.vm.findClass "TaleMachineModel" = some m.cls := findClass_of_methodNamed B.named
  have hlocks := B.notSynchronized
  have hD := hD0.self (sz := s.heap.size)
  generalize hAe : va_A [(h, .inr (8, [.int 0, .ref m_bytes, .int 0, .ref m_w, .int 0, .int 0, .ref m_saved, .int 0, .ref m_line, .ref m_met, .ref m_waiting, .ref m_nextParent, .int 0, .ref m_kind, .ref m_number, .int 0, .ref m_begin, .ref m_table, .ref m_handlers, .ref m_base, .ref m_locals, .ref m_self, .ref m_found, .ref m_place, .ref m_next, .int 0, .ref m_saidKind, .ref m_saidNumber, .int 0, .int 0, .int (-1)]))] s.heap.size = A at hD ⊢
  have hA : ∀ q : Nat, s.heap.size ≤ q → A q := fun q h => by rw [← hAe]; exact Or.inr h
  have hS : va_S A s.heap s.heap [] := va_S.rf
  have hl := lv_entry ([.ref h, .int k]) (n := 2) (Nat.le_of_ble_eq_true rfl)
  rw [lg_entry_eq]
  generalize (lg_sl ([.ref h, .int k]) ++ List.replicate (2 - (lg_sl ([.ref h, .int k])).length) Slot.unset).toArray = ls at hl ⊢
  have hl : lv_has ls 2 [(0, .ref h), (1, .int k)] := hl
  refine lv_aload_n hx hb d_Model_refuse_0 rfl (lv_at hl 0 rfl) ?_
  refine lv_iload_n hx hb d_Model_refuse_1 rfl (lv_at hl 1 rfl) ?_
  refine va_put (D := D) (ci := 8) (v := .int k) (ty := .int) (C := "TaleMachineModel") (T := F_Model) (N := 31) hx hb hts in_Model t_Model t_Model_ok n_Model hown hK hP hD hS 0 rfl rfl 0 (by decide) (hts _ k_0) (fun _ h9 => h9) rfl (by decide +kernel) rfl rfl (Nat.le_of_ble_eq_true rfl) d_Model_refuse_2 (fun H locs hP hD hS => ?_)
  have hP : va_P D cL [(h, .inr (8, [.int k, .ref m_bytes, .int 0, .ref m_w, .int 0, .int 0, .ref m_saved, .int 0, .ref m_line, .ref m_met, .ref m_waiting, .ref m_nextParent, .int 0, .ref m_kind, .ref m_number, .int 0, .ref m_begin, .ref m_table, .ref m_handlers, .ref m_base, .ref m_locals, .ref m_self, .ref m_found, .ref m_place, .ref m_next, .int 0, .ref m_saidKind, .ref m_saidNumber, .int 0, .int 0, .int (-1)]))] H := hP
  have hD : va_D A [(h, .inr (8, [.int k, .ref m_bytes, .int 0, .ref m_w, .int 0, .int 0, .ref m_saved, .int 0, .ref m_line, .ref m_met, .ref m_waiting, .ref m_nextParent, .int 0, .ref m_kind, .ref m_number, .int 0, .ref m_begin, .ref m_table, .ref m_handlers, .ref m_base, .ref m_locals, .ref m_self, .ref m_found, .ref m_place, .ref m_next, .int 0, .ref m_saidKind, .ref m_saidNumber, .int 0, .int 0, .int (-1)]))] := hD
  refine lv_iconst (v := 0) hx hb d_Model_refuse_5 (by decide) ?_
  exact end_i hx hb hr hlocks hS (u := ()) (r := 0) (at_end (hP.sub (ws' := [(h, .inr (8, [.int k, .ref m_bytes, .int 0, .ref m_w, .int 0, .int 0, .ref m_saved, .int 0, .ref m_line, .ref m_met, .ref m_waiting, .ref m_nextParent, .int 0, .ref m_kind, .ref m_number, .int 0, .ref m_begin, .ref m_table, .ref m_handlers, .ref m_base, .ref m_locals, .ref m_self, .ref m_found, .ref m_place, .ref m_next, .int 0, .ref m_saidKind, .ref m_saidNumber, .int 0, .int 0, .int (-1)]))]) [0] rfl) (hD.sub (ws' := [(h, .inr (8, [.int k, .ref m_bytes, .int 0, .ref m_w, .int 0, .int 0, .ref m_saved, .int 0, .ref m_line, .ref m_met, .ref m_waiting, .ref m_nextParent, .int 0, .ref m_kind, .ref m_number, .int 0, .ref m_begin, .ref m_table, .ref m_handlers, .ref m_base, .ref m_locals, .ref m_self, .ref m_found, .ref m_place, .ref m_next, .int 0, .ref m_saidKind, .ref m_saidNumber, .int 0, .int 0, .int (-1)]))]) [0] (by decide) rfl)) (rfl) (Nat.le_of_ble_eq_true rfl) (Nat.le_of_ble_eq_true rfl) d_Model_refuse_6

set_option maxHeartbeats 4000000 in
set_option maxRecDepth 100000 in
theorem c_Model_isThere (l : Launch) (D : va_G) (cI cZ cJ : ClassId) (h m_bytes m_w m_saved m_line m_met m_waiting m_nextParent m_kind m_number m_begin m_table m_handlers m_base m_locals m_self m_found m_place m_next m_saidKind m_saidNumber : Nat) (oo : Int32) (sz : Nat)  : Met l y_Model_isThere (.code y_Model_isThere prog_10_method_5_code 2 (some .boolean) :: AW) ({ frames := 1, cells := 0, slots := 0, locals := 22 }) (va_Pc [.ref h, .int oo] (pre_ D [(h, .inr (8, [.int 0, .ref m_bytes, .int 0, .ref m_w, .int 0, .int 0, .ref m_saved, .int 0, .ref m_line, .ref m_met, .ref m_waiting, .ref m_nextParent, .int 0, .ref m_kind, .ref m_number, .int 0, .ref m_begin, .ref m_table, .ref m_handlers, .ref m_base, .ref m_locals, .ref m_self, .ref m_found, .ref m_place, .ref m_next, .int 0, .ref m_saidKind, .ref m_saidNumber, .int 0, .int 0, .int (-1)])), (m_w, .inl (cI, 5568, .inl (fun _ => 0)))] [(cI, .int), (cZ, .boolean), (cJ, .long)] sz)) (va_Qi (fun (r : Int32) (u : Unit) => r = 0) (fun _ t => post_ D (va_A [(h, .inr (8, [.int 0, .ref m_bytes, .int 0, .ref m_w, .int 0, .int 0, .ref m_saved, .int 0, .ref m_line, .ref m_met, .ref m_waiting, .ref m_nextParent, .int 0, .ref m_kind, .ref m_number, .int 0, .ref m_begin, .ref m_table, .ref m_handlers, .ref m_base, .ref m_locals, .ref m_self, .ref m_found, .ref m_place, .ref m_next, .int 0, .ref m_saidKind, .ref m_saidNumber, .int 0, .int 0, .int (-1)])), (m_w, .inl (cI, 5568, .inl (fun _ => 0)))] sz) [(h, .inr (8, [.int 0, .ref m_bytes, .int 0, .ref m_w, .int 0, .int 0, .ref m_saved, .int 0, .ref m_line, .ref m_met, .ref m_waiting, .ref m_nextParent, .int 0, .ref m_kind, .ref m_number, .int 0, .ref m_begin, .ref m_table, .ref m_handlers, .ref m_base, .ref m_locals, .ref m_self, .ref m_found, .ref m_place, .ref m_next, .int 0, .ref m_saidKind, .ref m_saidNumber, .int 0, .int 0, .int (-1)])), (m_w, .inl (cI, 5568, .inl (fun _ => 0)))] t) (va_A [(h, .inr (8, [.int 0, .ref m_bytes, .int 0, .ref m_w, .int 0, .int 0, .ref m_saved, .int 0, .ref m_line, .ref m_met, .ref m_waiting, .ref m_nextParent, .int 0, .ref m_kind, .ref m_number, .int 0, .ref m_begin, .ref m_table, .ref m_handlers, .ref m_base, .ref m_locals, .ref m_self, .ref m_found, .ref m_place, .ref m_next, .int 0, .ref m_saidKind, .ref m_saidNumber, .int 0, .int 0, .int (-1)])), (m_w, .inl (cI, 5568, .inl (fun _ => 0)))] sz)) 0 0 (va_A [(h, .inr (8, [.int 0, .ref m_bytes, .int 0, .ref m_w, .int 0, .int 0, .ref m_saved, .int 0, .ref m_line, .ref m_met, .ref m_waiting, .ref m_nextParent, .int 0, .ref m_kind, .ref m_number, .int 0, .ref m_begin, .ref m_table, .ref m_handlers, .ref m_base, .ref m_locals, .ref m_self, .ref m_found, .ref m_place, .ref m_next, .int 0, .ref m_saidKind, .ref m_saidNumber, .int 0, .int 0, .int (-1)])), (m_w, .inl (cI, 5568, .inl (fun _ => 0)))] sz) := by
  refine Met.ofW (cc := prog_10_method_5_code) (maxL := 2) (ret := (some .boolean)) (by decide) rfl ?_
  intro p e s m args below meth c s₁ B hml hv
  obtain ⟨rfl, rfl, hP, hK, hD0, hT⟩ := hv
  have hx := B.exec
  have hb := B.bytes
  have hr := B.returns
  have hts0 := atoms_spec (ws := .code y_Model_isThere prog_10_method_5_code 2 (some .boolean) :: AW) B.pre
  have hts : ∀ w ∈ AW, w.before [.ref h, .int oo].toArray s = true := fun w h => hts0 w (List.mem_cons_of_mem _ h)
  have hown : s.vm.findClass "TaleMachineModel" = some m.cls := findClass_of_methodNamed B.named
  have hlocks := B.notSynchronized
  have hD := hD0.self (sz := s.heap.size)
  generalize hAe : va_A [(h, .inr (8, [.int 0, .ref m_bytes, .int 0, .ref m_w, .int 0, .int 0, .ref m_saved, .int 0, .ref m_line, .ref m_met, .ref m_waiting, .ref m_nextParent, .int 0, .ref m_kind, .ref m_number, .int 0, .ref m_begin, .ref m_table, .ref m_handlers, .ref m_base, .ref m_locals, .ref m_self, .ref m_found, .ref m_place, .ref m_next, .int 0, .ref m_saidKind, .ref m_saidNumber, .int 0, .int 0, .int (-1)])), (m_w, .inl (cI, 5568, .inl (fun _ => 0)))] s.heap.size = A at hD ⊢
  have hA : ∀ q : Nat, s.heap.size ≤ q → A q := fun q h => by rw [← hAe]; exact Or.inr h
  have hS : va_S A s.heap s.heap [] := va_S.rf
  have hl := lv_entry ([.ref h, .int oo]) (n := 2) (Nat.le_of_ble_eq_true rfl)
  rw [lg_entry_eq]
  generalize (lg_sl ([.ref h, .int oo]) ++ List.replicate (2 - (lg_sl ([.ref h, .int oo])).length) Slot.unset).toArray = ls at hl ⊢
  have hl : lv_has ls 2 [(0, .ref h), (1, .int oo)] := hl
  refine lv_iload_n hx hb d_Model_isThere_0 rfl (lv_at hl 1 rfl) ?_
  refine lv_iconst (v := 0) hx hb d_Model_isThere_1 (by decide) ?_
  refine lv_bipush (v := 31) hx hb d_Model_isThere_2 (by decide) ?_
  refine mv_i (va_runS (As := [.int oo, .int 0, .int 31]) (rest := []) ⟨hx, hb, hml, hown, hts⟩ (c_Model_outside l D cI cZ cJ oo 0 31 _ ) (va_cwS 3 hts (gInS k_2 k_3 k_4 k_1) rfl rfl rfl (by decide +kernel) ⟨Nat.le_of_ble_eq_true rfl, Nat.le_of_ble_eq_true rfl⟩) (pre_S (hP.sub [] rfl) (hK.sub [0, 1, 2] rfl) (hD.sub [] (by decide) rfl) hT) rfl rfl hl.1 rfl (lv_room (Nat.le_of_ble_eq_true rfl)) d_Model_isThere_4 ⟨Nat.le_of_ble_eq_true rfl, Nat.le_of_ble_eq_true rfl⟩) hP hD hS hA [] [0, 1] rfl rfl (by decide) (by decide) (wr := [(h, .inr (8, [.int 0, .ref m_bytes, .int 0, .ref m_w, .int 0, .int 0, .ref m_saved, .int 0, .ref m_line, .ref m_met, .ref m_waiting, .ref m_nextParent, .int 0, .ref m_kind, .ref m_number, .int 0, .ref m_begin, .ref m_table, .ref m_handlers, .ref m_base, .ref m_locals, .ref m_self, .ref m_found, .ref m_place, .ref m_next, .int 0, .ref m_saidKind, .ref m_saidNumber, .int 0, .int 0, .int (-1)])), (m_w, .inl (cI, 5568, .inl (fun _ => 0)))]) (wn := fun _ => []) (fun _ _ h9 => h9) (fun r1 _ H locs hp2 hP hD hS => ?_)
  have hP : va_P D cL [(h, .inr (8, [.int 0, .ref m_bytes, .int 0, .ref m_w, .int 0, .int 0, .ref m_saved, .int 0, .ref m_line, .ref m_met, .ref m_waiting, .ref m_nextParent, .int 0, .ref m_kind, .ref m_number, .int 0, .ref m_begin, .ref m_table, .ref m_handlers, .ref m_base, .ref m_locals, .ref m_self, .ref m_found, .ref m_place, .ref m_next, .int 0, .ref m_saidKind, .ref m_saidNumber, .int 0, .int 0, .int (-1)])), (m_w, .inl (cI, 5568, .inl (fun _ => 0)))] H := hP
  have hD : va_D A [(h, .inr (8, [.int 0, .ref m_bytes, .int 0, .ref m_w, .int 0, .int 0, .ref m_saved, .int 0, .ref m_line, .ref m_met, .ref m_waiting, .ref m_nextParent, .int 0, .ref m_kind, .ref m_number, .int 0, .ref m_begin, .ref m_table, .ref m_handlers, .ref m_base, .ref m_locals, .ref m_self, .ref m_found, .ref m_place, .ref m_next, .int 0, .ref m_saidKind, .ref m_saidNumber, .int 0, .int 0, .int (-1)])), (m_w, .inl (cI, 5568, .inl (fun _ => 0)))] := hD
  refine lv_if_ne hx hb d_Model_isThere_7 (tgt := 27) (by decide) (fun hc3 => ?_) (fun hc3 => ?_)
  · refine lv_iconst (v := 0) hx hb d_Model_isThere_27 (by decide) ?_
    exact end_z hx hb hr hlocks hS (u := ()) (r := 0) (at_end (hP.sub (ws' := [(h, .inr (8, [.int 0, .ref m_bytes, .int 0, .ref m_w, .int 0, .int 0, .ref m_saved, .int 0, .ref m_line, .ref m_met, .ref m_waiting, .ref m_nextParent, .int 0, .ref m_kind, .ref m_number, .int 0, .ref m_begin, .ref m_table, .ref m_handlers, .ref m_base, .ref m_locals, .ref m_self, .ref m_found, .ref m_place, .ref m_next, .int 0, .ref m_saidKind, .ref m_saidNumber, .int 0, .int 0, .int (-1)])), (m_w, .inl (cI, 5568, .inl (fun _ => 0)))]) [0, 1] rfl) (hD.sub (ws' := [(h, .inr (8, [.int 0, .ref m_bytes, .int 0, .ref m_w, .int 0, .int 0, .ref m_saved, .int 0, .ref m_line, .ref m_met, .ref m_waiting, .ref m_nextParent, .int 0, .ref m_kind, .ref m_number, .int 0, .ref m_begin, .ref m_table, .ref m_handlers, .ref m_base, .ref m_locals, .ref m_self, .ref m_found, .ref m_place, .ref m_next, .int 0, .ref m_saidKind, .ref m_saidNumber, .int 0, .int 0, .int (-1)])), (m_w, .inl (cI, 5568, .inl (fun _ => 0)))]) [0, 1] (by decide) rfl)) (rfl) (by decide) (Nat.le_of_ble_eq_true rfl) (Nat.le_of_ble_eq_true rfl) d_Model_isThere_28
  · refine lv_aload_n hx hb d_Model_isThere_10 rfl (lv_at hl 0 rfl) ?_
    refine va_get (D := D) (ci := 8) (v := .ref m_w) (C := "TaleMachineModel") (T := F_Model) (N := 31) hx hb hts in_Model hown hK hP 0 rfl rfl 3 (by decide) (hts _ k_5) (fun _ h9 => h9) rfl d_Model_isThere_11 ?_
    refine lv_bipush (v := 29) hx hb d_Model_isThere_14 (by decide) ?_
    refine lv_iload_n hx hb d_Model_isThere_16 rfl (lv_at hl 1 rfl) ?_
    refine lv_imul hx hb d_Model_isThere_17 ?_
    refine lv_topi (fun z4 hz4 => ?_)
    obtain rfl : z4 = (29 * oo) := hz4.trans (rfl)
    refine va_iald hx hb hK hP 1 0 rfl rfl (i := (29 * oo)) (md_ix _ (fun hh => absurd (hp2.2.mpr hh) (by rw [hc3]; decide))) d_Model_isThere_18 ?_
    refine lv_topi (fun z5 hz5 => ?_)
    obtain rfl : z5 = 0 := hz5
    refine lv_iconst (v := 1) hx hb d_Model_isThere_19 (by decide) ?_
    refine lv_icmp_ne hx hb d_Model_isThere_20 (tgt := 27) (by decide) (fun _ => ?_) (fun hz => absurd hz (by decide))
    refine lv_iconst (v := 0) hx hb d_Model_isThere_27 (by decide) ?_
    exact end_z hx hb hr hlocks hS (u := ()) (r := 0) (at_end (hP.sub (ws' := [(h, .inr (8, [.int 0, .ref m_bytes, .int 0, .ref m_w, .int 0, .int 0, .ref m_saved, .int 0, .ref m_line, .ref m_met, .ref m_waiting, .ref m_nextParent, .int 0, .ref m_kind, .ref m_number, .int 0, .ref m_begin, .ref m_table, .ref m_handlers, .ref m_base, .ref m_locals, .ref m_self, .ref m_found, .ref m_place, .ref m_next, .int 0, .ref m_saidKind, .ref m_saidNumber, .int 0, .int 0, .int (-1)])), (m_w, .inl (cI, 5568, .inl (fun _ => 0)))]) [0, 1] rfl) (hD.sub (ws' := [(h, .inr (8, [.int 0, .ref m_bytes, .int 0, .ref m_w, .int 0, .int 0, .ref m_saved, .int 0, .ref m_line, .ref m_met, .ref m_waiting, .ref m_nextParent, .int 0, .ref m_kind, .ref m_number, .int 0, .ref m_begin, .ref m_table, .ref m_handlers, .ref m_base, .ref m_locals, .ref m_self, .ref m_found, .ref m_place, .ref m_next, .int 0, .ref m_saidKind, .ref m_saidNumber, .int 0, .int 0, .int (-1)])), (m_w, .inl (cI, 5568, .inl (fun _ => 0)))]) [0, 1] (by decide) rfl)) (rfl) (by decide) (Nat.le_of_ble_eq_true rfl) (Nat.le_of_ble_eq_true rfl) d_Model_isThere_28

set_option maxHeartbeats 4000000 in
set_option maxRecDepth 100000 in
theorem c_Model_isParent_1 (l : Launch) (D : va_G) (cI cZ cJ : ClassId) (h m_bytes m_w m_saved m_line m_met m_waiting m_nextParent m_kind m_number m_begin m_table m_handlers m_base m_locals m_self m_found m_place m_next m_saidKind m_saidNumber : Nat) (sz : Nat)  : Met l y_Model_isParent (.code y_Model_isParent prog_10_method_17_code 2 (some .boolean) :: AW) ({ frames := 0, cells := 0, slots := 0, locals := 0 }) (va_Pc [.ref h, .int (-1)] (pre_ D [(h, .inr (8, [.int 0, .ref m_bytes, .int 0, .ref m_w, .int 0, .int 0, .ref m_saved, .int 0, .ref m_line, .ref m_met, .ref m_waiting, .ref m_nextParent, .int 0, .ref m_kind, .ref m_number, .int 0, .ref m_begin, .ref m_table, .ref m_handlers, .ref m_base, .ref m_locals, .ref m_self, .ref m_found, .ref m_place, .ref m_next, .int 0, .ref m_saidKind, .ref m_saidNumber, .int 0, .int 0, .int (-1)])), (m_w, .inl (cI, 5568, .inl (fun _ => 0)))] [(cI, .int), (cZ, .boolean), (cJ, .long)] sz)) (va_Qi (fun (r : Int32) (u : Unit) => r = 1) (fun _ t => post_ D (va_A [(h, .inr (8, [.int 0, .ref m_bytes, .int 0, .ref m_w, .int 0, .int 0, .ref m_saved, .int 0, .ref m_line, .ref m_met, .ref m_waiting, .ref m_nextParent, .int 0, .ref m_kind, .ref m_number, .int 0, .ref m_begin, .ref m_table, .ref m_handlers, .ref m_base, .ref m_locals, .ref m_self, .ref m_found, .ref m_place, .ref m_next, .int 0, .ref m_saidKind, .ref m_saidNumber, .int 0, .int 0, .int (-1)])), (m_w, .inl (cI, 5568, .inl (fun _ => 0)))] sz) [(h, .inr (8, [.int 0, .ref m_bytes, .int 0, .ref m_w, .int 0, .int 0, .ref m_saved, .int 0, .ref m_line, .ref m_met, .ref m_waiting, .ref m_nextParent, .int 0, .ref m_kind, .ref m_number, .int 0, .ref m_begin, .ref m_table, .ref m_handlers, .ref m_base, .ref m_locals, .ref m_self, .ref m_found, .ref m_place, .ref m_next, .int 0, .ref m_saidKind, .ref m_saidNumber, .int 0, .int 0, .int (-1)])), (m_w, .inl (cI, 5568, .inl (fun _ => 0)))] t) (va_A [(h, .inr (8, [.int 0, .ref m_bytes, .int 0, .ref m_w, .int 0, .int 0, .ref m_saved, .int 0, .ref m_line, .ref m_met, .ref m_waiting, .ref m_nextParent, .int 0, .ref m_kind, .ref m_number, .int 0, .ref m_begin, .ref m_table, .ref m_handlers, .ref m_base, .ref m_locals, .ref m_self, .ref m_found, .ref m_place, .ref m_next, .int 0, .ref m_saidKind, .ref m_saidNumber, .int 0, .int 0, .int (-1)])), (m_w, .inl (cI, 5568, .inl (fun _ => 0)))] sz)) 0 0 (va_A [(h, .inr (8, [.int 0, .ref m_bytes, .int 0, .ref m_w, .int 0, .int 0, .ref m_saved, .int 0, .ref m_line, .ref m_met, .ref m_waiting, .ref m_nextParent, .int 0, .ref m_kind, .ref m_number, .int 0, .ref m_begin, .ref m_table, .ref m_handlers, .ref m_base, .ref m_locals, .ref m_self, .ref m_found, .ref m_place, .ref m_next, .int 0, .ref m_saidKind, .ref m_saidNumber, .int 0, .int 0, .int (-1)])), (m_w, .inl (cI, 5568, .inl (fun _ => 0)))] sz) := by
  refine Met.ofW (cc := prog_10_method_17_code) (maxL := 2) (ret := (some .boolean)) (by decide) rfl ?_
  intro p e s m args below meth c s₁ B hml hv
  obtain ⟨rfl, rfl, hP, hK, hD0, hT⟩ := hv
  have hx := B.exec
  have hb := B.bytes
  have hr := B.returns
  have hts0 := atoms_spec (ws := .code y_Model_isParent prog_10_method_17_code 2 (some .boolean) :: AW) B.pre
  have hts : ∀ w ∈ AW, w.before [.ref h, .int (-1)].toArray s = true := fun w h => hts0 w (List.mem_cons_of_mem _ h)
  have hown : s.vm.findClass "TaleMachineModel" = some m.cls := findClass_of_methodNamed B.named
  have hlocks := B.notSynchronized
  have hD := hD0.self (sz := s.heap.size)
  generalize hAe : va_A [(h, .inr (8, [.int 0, .ref m_bytes, .int 0, .ref m_w, .int 0, .int 0, .ref m_saved, .int 0, .ref m_line, .ref m_met, .ref m_waiting, .ref m_nextParent, .int 0, .ref m_kind, .ref m_number, .int 0, .ref m_begin, .ref m_table, .ref m_handlers, .ref m_base, .ref m_locals, .ref m_self, .ref m_found, .ref m_place, .ref m_next, .int 0, .ref m_saidKind, .ref m_saidNumber, .int 0, .int 0, .int (-1)])), (m_w, .inl (cI, 5568, .inl (fun _ => 0)))] s.heap.size = A at hD ⊢
  have hA : ∀ q : Nat, s.heap.size ≤ q → A q := fun q h => by rw [← hAe]; exact Or.inr h
  have hS : va_S A s.heap s.heap [] := va_S.rf
  have hl := lv_entry ([.ref h, .int (-1)]) (n := 2) (Nat.le_of_ble_eq_true rfl)
  rw [lg_entry_eq]
  generalize (lg_sl ([.ref h, .int (-1)]) ++ List.replicate (2 - (lg_sl ([.ref h, .int (-1)])).length) Slot.unset).toArray = ls at hl ⊢
  have hl : lv_has ls 2 [(0, .ref h), (1, .int (-1))] := hl
  refine lv_iload_n hx hb d_Model_isParent_0 rfl (lv_at hl 1 rfl) ?_
  refine lv_iconst (v := (-1)) hx hb d_Model_isParent_1 (by decide) ?_
  refine lv_icmp_eq hx hb d_Model_isParent_2 (tgt := 23) (by decide) (fun _ => ?_) (fun hz => absurd (by decide) hz)
  refine lv_iconst (v := 1) hx hb d_Model_isParent_23 (by decide) ?_
  refine lv_goto hx hb d_Model_isParent_24 (tgt := 28) (by decide) ?_
  exact end_z hx hb hr hlocks hS (u := ()) (r := 1) (at_end (hP.sub (ws' := [(h, .inr (8, [.int 0, .ref m_bytes, .int 0, .ref m_w, .int 0, .int 0, .ref m_saved, .int 0, .ref m_line, .ref m_met, .ref m_waiting, .ref m_nextParent, .int 0, .ref m_kind, .ref m_number, .int 0, .ref m_begin, .ref m_table, .ref m_handlers, .ref m_base, .ref m_locals, .ref m_self, .ref m_found, .ref m_place, .ref m_next, .int 0, .ref m_saidKind, .ref m_saidNumber, .int 0, .int 0, .int (-1)])), (m_w, .inl (cI, 5568, .inl (fun _ => 0)))]) [0, 1] rfl) (hD.sub (ws' := [(h, .inr (8, [.int 0, .ref m_bytes, .int 0, .ref m_w, .int 0, .int 0, .ref m_saved, .int 0, .ref m_line, .ref m_met, .ref m_waiting, .ref m_nextParent, .int 0, .ref m_kind, .ref m_number, .int 0, .ref m_begin, .ref m_table, .ref m_handlers, .ref m_base, .ref m_locals, .ref m_self, .ref m_found, .ref m_place, .ref m_next, .int 0, .ref m_saidKind, .ref m_saidNumber, .int 0, .int 0, .int (-1)])), (m_w, .inl (cI, 5568, .inl (fun _ => 0)))]) [0, 1] (by decide) rfl)) (rfl) (by decide) (Nat.le_of_ble_eq_true rfl) (Nat.le_of_ble_eq_true rfl) d_Model_isParent_28

set_option maxHeartbeats 4000000 in
set_option maxRecDepth 100000 in
theorem c_Model_isParent_2 (l : Launch) (D : va_G) (cI cZ cJ : ClassId) (h m_bytes m_w m_saved m_line m_met m_waiting m_nextParent m_kind m_number m_begin m_table m_handlers m_base m_locals m_self m_found m_place m_next m_saidKind m_saidNumber : Nat) (oo : Int32) (sz : Nat) (ho : oo ≠ -1) : Met l y_Model_isParent (.code y_Model_isParent prog_10_method_17_code 2 (some .boolean) :: AW) ({ frames := 2, cells := 0, slots := 0, locals := 43 }) (va_Pc [.ref h, .int oo] (pre_ D [(h, .inr (8, [.int 0, .ref m_bytes, .int 0, .ref m_w, .int 0, .int 0, .ref m_saved, .int 0, .ref m_line, .ref m_met, .ref m_waiting, .ref m_nextParent, .int 0, .ref m_kind, .ref m_number, .int 0, .ref m_begin, .ref m_table, .ref m_handlers, .ref m_base, .ref m_locals, .ref m_self, .ref m_found, .ref m_place, .ref m_next, .int 0, .ref m_saidKind, .ref m_saidNumber, .int 0, .int 0, .int (-1)])), (m_w, .inl (cI, 5568, .inl (fun _ => 0)))] [(cI, .int), (cZ, .boolean), (cJ, .long)] sz)) (va_Qi (fun (r : Int32) (u : Unit) => r = 0) (fun _ t => post_ D (va_A [(h, .inr (8, [.int 0, .ref m_bytes, .int 0, .ref m_w, .int 0, .int 0, .ref m_saved, .int 0, .ref m_line, .ref m_met, .ref m_waiting, .ref m_nextParent, .int 0, .ref m_kind, .ref m_number, .int 0, .ref m_begin, .ref m_table, .ref m_handlers, .ref m_base, .ref m_locals, .ref m_self, .ref m_found, .ref m_place, .ref m_next, .int 0, .ref m_saidKind, .ref m_saidNumber, .int 0, .int 0, .int (-1)])), (m_w, .inl (cI, 5568, .inl (fun _ => 0)))] sz) [(h, .inr (8, [.int 0, .ref m_bytes, .int 0, .ref m_w, .int 0, .int 0, .ref m_saved, .int 0, .ref m_line, .ref m_met, .ref m_waiting, .ref m_nextParent, .int 0, .ref m_kind, .ref m_number, .int 0, .ref m_begin, .ref m_table, .ref m_handlers, .ref m_base, .ref m_locals, .ref m_self, .ref m_found, .ref m_place, .ref m_next, .int 0, .ref m_saidKind, .ref m_saidNumber, .int 0, .int 0, .int (-1)])), (m_w, .inl (cI, 5568, .inl (fun _ => 0)))] t) (va_A [(h, .inr (8, [.int 0, .ref m_bytes, .int 0, .ref m_w, .int 0, .int 0, .ref m_saved, .int 0, .ref m_line, .ref m_met, .ref m_waiting, .ref m_nextParent, .int 0, .ref m_kind, .ref m_number, .int 0, .ref m_begin, .ref m_table, .ref m_handlers, .ref m_base, .ref m_locals, .ref m_self, .ref m_found, .ref m_place, .ref m_next, .int 0, .ref m_saidKind, .ref m_saidNumber, .int 0, .int 0, .int (-1)])), (m_w, .inl (cI, 5568, .inl (fun _ => 0)))] sz)) 0 0 (va_A [(h, .inr (8, [.int 0, .ref m_bytes, .int 0, .ref m_w, .int 0, .int 0, .ref m_saved, .int 0, .ref m_line, .ref m_met, .ref m_waiting, .ref m_nextParent, .int 0, .ref m_kind, .ref m_number, .int 0, .ref m_begin, .ref m_table, .ref m_handlers, .ref m_base, .ref m_locals, .ref m_self, .ref m_found, .ref m_place, .ref m_next, .int 0, .ref m_saidKind, .ref m_saidNumber, .int 0, .int 0, .int (-1)])), (m_w, .inl (cI, 5568, .inl (fun _ => 0)))] sz) := by
  refine Met.ofW (cc := prog_10_method_17_code) (maxL := 2) (ret := (some .boolean)) (by decide) rfl ?_
  intro p e s m args below meth c s₁ B hml hv
  obtain ⟨rfl, rfl, hP, hK, hD0, hT⟩ := hv
  have hx := B.exec
  have hb := B.bytes
  have hr := B.returns
  have hts0 := atoms_spec (ws := .code y_Model_isParent prog_10_method_17_code 2 (some .boolean) :: AW) B.pre
  have hts : ∀ w ∈ AW, w.before [.ref h, .int oo].toArray s = true := fun w h => hts0 w (List.mem_cons_of_mem _ h)
  have hown : s.vm.findClass "TaleMachineModel" = some m.cls := findClass_of_methodNamed B.named
  have hlocks := B.notSynchronized
  have hD := hD0.self (sz := s.heap.size)
  generalize hAe : va_A [(h, .inr (8, [.int 0, .ref m_bytes, .int 0, .ref m_w, .int 0, .int 0, .ref m_saved, .int 0, .ref m_line, .ref m_met, .ref m_waiting, .ref m_nextParent, .int 0, .ref m_kind, .ref m_number, .int 0, .ref m_begin, .ref m_table, .ref m_handlers, .ref m_base, .ref m_locals, .ref m_self, .ref m_found, .ref m_place, .ref m_next, .int 0, .ref m_saidKind, .ref m_saidNumber, .int 0, .int 0, .int (-1)])), (m_w, .inl (cI, 5568, .inl (fun _ => 0)))] s.heap.size = A at hD ⊢
  have hA : ∀ q : Nat, s.heap.size ≤ q → A q := fun q h => by rw [← hAe]; exact Or.inr h
  have hS : va_S A s.heap s.heap [] := va_S.rf
  have hl := lv_entry ([.ref h, .int oo]) (n := 2) (Nat.le_of_ble_eq_true rfl)
  rw [lg_entry_eq]
  generalize (lg_sl ([.ref h, .int oo]) ++ List.replicate (2 - (lg_sl ([.ref h, .int oo])).length) Slot.unset).toArray = ls at hl ⊢
  have hl : lv_has ls 2 [(0, .ref h), (1, .int oo)] := hl
  refine lv_iload_n hx hb d_Model_isParent_0 rfl (lv_at hl 1 rfl) ?_
  refine lv_iconst (v := (-1)) hx hb d_Model_isParent_1 (by decide) ?_
  refine lv_icmp_eq hx hb d_Model_isParent_2 (tgt := 23) (by decide) (fun hz => absurd hz ho) (fun _ => ?_)
  refine lv_iload_n hx hb d_Model_isParent_5 rfl (lv_at hl 1 rfl) ?_
  refine lv_iconst (v := 0) hx hb d_Model_isParent_6 (by decide) ?_
  refine lv_bipush (v := 15) hx hb d_Model_isParent_7 (by decide) ?_
  refine mv_i (va_runS (As := [.int oo, .int 0, .int 15]) (rest := []) ⟨hx, hb, hml, hown, hts⟩ (c_Model_outside l D cI cZ cJ oo 0 15 _ ) (va_cwS 3 hts (gInS k_2 k_3 k_4 k_1) rfl rfl rfl (by decide +kernel) ⟨Nat.le_of_ble_eq_true rfl, Nat.le_of_ble_eq_true rfl⟩) (pre_S (hP.sub [] rfl) (hK.sub [0, 1, 2] rfl) (hD.sub [] (by decide) rfl) hT) rfl rfl hl.1 rfl (lv_room (Nat.le_of_ble_eq_true rfl)) d_Model_isParent_9 ⟨Nat.le_of_ble_eq_true rfl, Nat.le_of_ble_eq_true rfl⟩) hP hD hS hA [] [0, 1] rfl rfl (by decide) (by decide) (wr := [(h, .inr (8, [.int 0, .ref m_bytes, .int 0, .ref m_w, .int 0, .int 0, .ref m_saved, .int 0, .ref m_line, .ref m_met, .ref m_waiting, .ref m_nextParent, .int 0, .ref m_kind, .ref m_number, .int 0, .ref m_begin, .ref m_table, .ref m_handlers, .ref m_base, .ref m_locals, .ref m_self, .ref m_found, .ref m_place, .ref m_next, .int 0, .ref m_saidKind, .ref m_saidNumber, .int 0, .int 0, .int (-1)])), (m_w, .inl (cI, 5568, .inl (fun _ => 0)))]) (wn := fun _ => []) (fun _ _ h9 => h9) (fun r1 _ H locs hp2 hP hD hS => ?_)
  have hP : va_P D cL [(h, .inr (8, [.int 0, .ref m_bytes, .int 0, .ref m_w, .int 0, .int 0, .ref m_saved, .int 0, .ref m_line, .ref m_met, .ref m_waiting, .ref m_nextParent, .int 0, .ref m_kind, .ref m_number, .int 0, .ref m_begin, .ref m_table, .ref m_handlers, .ref m_base, .ref m_locals, .ref m_self, .ref m_found, .ref m_place, .ref m_next, .int 0, .ref m_saidKind, .ref m_saidNumber, .int 0, .int 0, .int (-1)])), (m_w, .inl (cI, 5568, .inl (fun _ => 0)))] H := hP
  have hD : va_D A [(h, .inr (8, [.int 0, .ref m_bytes, .int 0, .ref m_w, .int 0, .int 0, .ref m_saved, .int 0, .ref m_line, .ref m_met, .ref m_waiting, .ref m_nextParent, .int 0, .ref m_kind, .ref m_number, .int 0, .ref m_begin, .ref m_table, .ref m_handlers, .ref m_base, .ref m_locals, .ref m_self, .ref m_found, .ref m_place, .ref m_next, .int 0, .ref m_saidKind, .ref m_saidNumber, .int 0, .int 0, .int (-1)])), (m_w, .inl (cI, 5568, .inl (fun _ => 0)))] := hD
  refine lv_if_ne hx hb d_Model_isParent_12 (tgt := 27) (by decide) (fun hc3 => ?_) (fun hc3 => ?_)
  · refine lv_iconst (v := 0) hx hb d_Model_isParent_27 (by decide) ?_
    exact end_z hx hb hr hlocks hS (u := ()) (r := 0) (at_end (hP.sub (ws' := [(h, .inr (8, [.int 0, .ref m_bytes, .int 0, .ref m_w, .int 0, .int 0, .ref m_saved, .int 0, .ref m_line, .ref m_met, .ref m_waiting, .ref m_nextParent, .int 0, .ref m_kind, .ref m_number, .int 0, .ref m_begin, .ref m_table, .ref m_handlers, .ref m_base, .ref m_locals, .ref m_self, .ref m_found, .ref m_place, .ref m_next, .int 0, .ref m_saidKind, .ref m_saidNumber, .int 0, .int 0, .int (-1)])), (m_w, .inl (cI, 5568, .inl (fun _ => 0)))]) [0, 1] rfl) (hD.sub (ws' := [(h, .inr (8, [.int 0, .ref m_bytes, .int 0, .ref m_w, .int 0, .int 0, .ref m_saved, .int 0, .ref m_line, .ref m_met, .ref m_waiting, .ref m_nextParent, .int 0, .ref m_kind, .ref m_number, .int 0, .ref m_begin, .ref m_table, .ref m_handlers, .ref m_base, .ref m_locals, .ref m_self, .ref m_found, .ref m_place, .ref m_next, .int 0, .ref m_saidKind, .ref m_saidNumber, .int 0, .int 0, .int (-1)])), (m_w, .inl (cI, 5568, .inl (fun _ => 0)))]) [0, 1] (by decide) rfl)) (rfl) (by decide) (Nat.le_of_ble_eq_true rfl) (Nat.le_of_ble_eq_true rfl) d_Model_isParent_28
  · refine lv_aload_n hx hb d_Model_isParent_15 rfl (lv_at hl 0 rfl) ?_
    refine lv_iload_n hx hb d_Model_isParent_16 rfl (lv_at hl 1 rfl) ?_
    refine mv_i (va_runV (C := "TaleMachineModel") (As := [.int oo]) (rest := []) ⟨hx, hb, hml, hown, hts⟩ (c_Model_isThere l D cI cZ cJ h m_bytes m_w m_saved m_line m_met m_waiting m_nextParent m_kind m_number m_begin m_table m_handlers m_base m_locals m_self m_found m_place m_next m_saidKind m_saidNumber oo _ ) (cwV 1 hts (gInV k_7 k_8 k_9 k_4 k_6) rfl rfl rfl (by decide +kernel) ⟨Nat.le_of_ble_eq_true rfl, Nat.le_of_ble_eq_true rfl⟩) (pre_V (va_recv hK hP (q := ("TaleMachineModel", F_Model, 31)) rfl (q0 := 0) rfl) (hP.sub [0, 1] rfl) (hK.sub [0, 1, 2] rfl) (hD.sub [0, 1] (by decide) rfl) hT) rfl rfl hl.1 rfl (lv_room (Nat.le_of_ble_eq_true rfl)) d_Model_isParent_17 ⟨Nat.le_of_ble_eq_true rfl, Nat.le_of_ble_eq_true rfl⟩) hP hD hS hA [0, 1] [] rfl rfl (by decide) (by decide) (wr := []) (wn := fun _ => [(h, .inr (8, [.int 0, .ref m_bytes, .int 0, .ref m_w, .int 0, .int 0, .ref m_saved, .int 0, .ref m_line, .ref m_met, .ref m_waiting, .ref m_nextParent, .int 0, .ref m_kind, .ref m_number, .int 0, .ref m_begin, .ref m_table, .ref m_handlers, .ref m_base, .ref m_locals, .ref m_self, .ref m_found, .ref m_place, .ref m_next, .int 0, .ref m_saidKind, .ref m_saidNumber, .int 0, .int 0, .int (-1)])), (m_w, .inl (cI, 5568, .inl (fun _ => 0)))]) (fun _ _ h9 => h9) (fun r4 _ H locs hp5 hP hD hS => ?_)
    have hP : va_P D cL [(h, .inr (8, [.int 0, .ref m_bytes, .int 0, .ref m_w, .int 0, .int 0, .ref m_saved, .int 0, .ref m_line, .ref m_met, .ref m_waiting, .ref m_nextParent, .int 0, .ref m_kind, .ref m_number, .int 0, .ref m_begin, .ref m_table, .ref m_handlers, .ref m_base, .ref m_locals, .ref m_self, .ref m_found, .ref m_place, .ref m_next, .int 0, .ref m_saidKind, .ref m_saidNumber, .int 0, .int 0, .int (-1)])), (m_w, .inl (cI, 5568, .inl (fun _ => 0)))] H := hP
    have hD : va_D A [(h, .inr (8, [.int 0, .ref m_bytes, .int 0, .ref m_w, .int 0, .int 0, .ref m_saved, .int 0, .ref m_line, .ref m_met, .ref m_waiting, .ref m_nextParent, .int 0, .ref m_kind, .ref m_number, .int 0, .ref m_begin, .ref m_table, .ref m_handlers, .ref m_base, .ref m_locals, .ref m_self, .ref m_found, .ref m_place, .ref m_next, .int 0, .ref m_saidKind, .ref m_saidNumber, .int 0, .int 0, .int (-1)])), (m_w, .inl (cI, 5568, .inl (fun _ => 0)))] := hD
    obtain rfl : r4 = 0 := hp5
    refine lv_if_eq hx hb d_Model_isParent_20 (tgt := 27) (by decide) (fun _ => ?_) (fun hz => absurd (by decide) hz)
    refine lv_iconst (v := 0) hx hb d_Model_isParent_27 (by decide) ?_
    exact end_z hx hb hr hlocks hS (u := ()) (r := 0) (at_end (hP.sub (ws' := [(h, .inr (8, [.int 0, .ref m_bytes, .int 0, .ref m_w, .int 0, .int 0, .ref m_saved, .int 0, .ref m_line, .ref m_met, .ref m_waiting, .ref m_nextParent, .int 0, .ref m_kind, .ref m_number, .int 0, .ref m_begin, .ref m_table, .ref m_handlers, .ref m_base, .ref m_locals, .ref m_self, .ref m_found, .ref m_place, .ref m_next, .int 0, .ref m_saidKind, .ref m_saidNumber, .int 0, .int 0, .int (-1)])), (m_w, .inl (cI, 5568, .inl (fun _ => 0)))]) [0, 1] rfl) (hD.sub (ws' := [(h, .inr (8, [.int 0, .ref m_bytes, .int 0, .ref m_w, .int 0, .int 0, .ref m_saved, .int 0, .ref m_line, .ref m_met, .ref m_waiting, .ref m_nextParent, .int 0, .ref m_kind, .ref m_number, .int 0, .ref m_begin, .ref m_table, .ref m_handlers, .ref m_base, .ref m_locals, .ref m_self, .ref m_found, .ref m_place, .ref m_next, .int 0, .ref m_saidKind, .ref m_saidNumber, .int 0, .int 0, .int (-1)])), (m_w, .inl (cI, 5568, .inl (fun _ => 0)))]) [0, 1] (by decide) rfl)) (rfl) (by decide) (Nat.le_of_ble_eq_true rfl) (Nat.le_of_ble_eq_true rfl) d_Model_isParent_28

set_option maxHeartbeats 4000000 in
set_option maxRecDepth 100000 in
theorem c_Model_placeOf (l : Launch) (D : va_G) (cI cZ cJ : ClassId) (h : Nat) (oo p_ : Int32) (sz : Nat)  : Met l y_Model_placeOf (.code y_Model_placeOf prog_10_method_8_code 3 (some .int) :: AW) ({ frames := 0, cells := 0, slots := 0, locals := 0 }) (va_Pc [.ref h, .int oo, .int p_] (pre_ D [] [(cI, .int), (cZ, .boolean), (cJ, .long)] sz)) (va_Qi (fun (r : Int32) (u : Unit) => r = 29 * oo + 5 + 3 * p_) (fun _ t => post_ D (va_A [] sz) [] t) (va_A [] sz)) 0 0 (va_A [] sz) := by
  refine Met.ofW (cc := prog_10_method_8_code) (maxL := 3) (ret := (some .int)) (by decide) rfl ?_
  intro p e s m args below meth c s₁ B hml hv
  obtain ⟨rfl, rfl, hP, hK, hD0, hT⟩ := hv
  have hx := B.exec
  have hb := B.bytes
  have hr := B.returns
  have hts0 := atoms_spec (ws := .code y_Model_placeOf prog_10_method_8_code 3 (some .int) :: AW) B.pre
  have hts : ∀ w ∈ AW, w.before [.ref h, .int oo, .int p_].toArray s = true := fun w h => hts0 w (List.mem_cons_of_mem _ h)
  have hown : s.vm.findClass "TaleMachineModel" = some m.cls := findClass_of_methodNamed B.named
  have hlocks := B.notSynchronized
  have hD := hD0.self (sz := s.heap.size)
  generalize hAe : va_A [] s.heap.size = A at hD ⊢
  have hA : ∀ q : Nat, s.heap.size ≤ q → A q := fun q h => by rw [← hAe]; exact Or.inr h
  have hS : va_S A s.heap s.heap [] := va_S.rf
  have hl := lv_entry ([.ref h, .int oo, .int p_]) (n := 3) (Nat.le_of_ble_eq_true rfl)
  rw [lg_entry_eq]
  generalize (lg_sl ([.ref h, .int oo, .int p_]) ++ List.replicate (3 - (lg_sl ([.ref h, .int oo, .int p_])).length) Slot.unset).toArray = ls at hl ⊢
  have hl : lv_has ls 3 [(0, .ref h), (1, .int oo), (2, .int p_)] := hl
  refine lv_bipush (v := 29) hx hb d_Model_placeOf_0 (by decide) ?_
  refine lv_iload_n hx hb d_Model_placeOf_2 rfl (lv_at hl 1 rfl) ?_
  refine lv_imul hx hb d_Model_placeOf_3 ?_
  refine lv_topi (fun z1 hz1 => ?_)
  obtain rfl : z1 = (29 * oo) := hz1.trans (rfl)
  refine lv_iconst (v := 5) hx hb d_Model_placeOf_4 (by decide) ?_
  refine lv_iadd hx hb d_Model_placeOf_5 ?_
  refine lv_topi (fun z2 hz2 => ?_)
  obtain rfl : z2 = (29 * oo + 5) := hz2.trans (rfl)
  refine lv_iconst (v := 3) hx hb d_Model_placeOf_6 (by decide) ?_
  refine lv_iload_n hx hb d_Model_placeOf_7 rfl (lv_at hl 2 rfl) ?_
  refine lv_imul hx hb d_Model_placeOf_8 ?_
  refine lv_topi (fun z3 hz3 => ?_)
  obtain rfl : z3 = (3 * p_) := hz3.trans (rfl)
  refine lv_iadd hx hb d_Model_placeOf_9 ?_
  refine lv_topi (fun z4 hz4 => ?_)
  obtain rfl : z4 = (29 * oo + 5 + 3 * p_) := hz4.trans (rfl)
  exact end_i hx hb hr hlocks hS (u := ()) (r := (29 * oo + 5 + 3 * p_)) (at_end (hP.sub (ws' := []) [] rfl) (hD.sub (ws' := []) [] (by decide) rfl)) (rfl) (Nat.le_of_ble_eq_true rfl) (Nat.le_of_ble_eq_true rfl) d_Model_placeOf_10
