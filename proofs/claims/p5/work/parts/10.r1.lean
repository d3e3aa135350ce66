set_option maxHeartbeats 4000000 in
set_option maxRecDepth 100000 in
theorem g_outside (l : Launch) (D : va_G) (cI cZ cJ : ClassId) (vv lo hi : Int32) (sz : Nat)  : Met l y_Model_outside (.code y_Model_outside prog_10_method_4_code 3 (some .boolean) :: AW) ({ frames := 0, cells := 0, slots := 0, locals := 0 }) (va_Pc [.int vv, .int lo, .int hi] (pre_ D [] [(cI, .int), (cZ, .boolean), (cJ, .long)] sz)) (va_Qi (fun (r : Int32) (u : Unit) => (r = 0 ∨ r = 1) ∧ (r = 1 ↔ vv < lo ∨ hi < vv)) (fun _ t => post_ D (va_A [] sz) [] t) (va_A [] sz)) 0 0 (va_A [] sz) := by
  refine Met.ofW (cc := prog_10_method_4_code) (maxL := 3) (ret := (some .boolean)) (by decide) rfl ?_
  intro p e s m args below meth c s₁ B hml hv
  obtain ⟨rfl, rfl, hP, hK, hD0, hT⟩ := hv
  have hx := B.exec
  have hb := B.bytes
  have hr := B.returns
  have hts0 := atoms_spec (ws := .code y_Model_outside prog_10_method_4_code 3 (some .boolean) :: AW) B.pre
  have hts : ∀ w ∈ AW, w.before [.int vv, .int lo, .int hi].toArray s = true := fun w h => hts0 w (List.mem_cons_of_mem _ h)
  have hown : s.vm.findClass "TaleMachineModel" = some m.cls := findClass_of_methodNamed B.named
  have hlocks := B.notSynchronized
  have hD := hD0.self (sz := s.heap.size)
  generalize hAe : va_A [] s.heap.size = A at hD ⊢
  have hA : ∀ q : Nat, s.heap.size ≤ q → A q := fun q h => by rw [← hAe]; exact Or.inr h
  have hS : va_S A s.heap s.heap [] := va_S.rf
  have hl := lv_entry ([.int vv, .int lo, .int hi]) (n := 3) (Nat.le_of_ble_eq_true rfl)
  rw [lg_entry_eq]
  generalize (lg_sl ([.int vv, .int lo, .int hi]) ++ List.replicate (3 - (lg_sl ([.int vv, .int lo, .int hi])).length) Slot.unset).toArray = ls at hl ⊢
  have hl : lv_has ls 3 [(0, .int vv), (1, .int lo), (2, .int hi)] := hl
  refine lv_iload_n hx hb d_Model_outside_0 rfl (lv_at hl 0 rfl) ?_
  refine lv_iload_n hx hb d_Model_outside_1 rfl (lv_at hl 1 rfl) ?_
  refine lv_icmp_lt hx hb d_Model_outside_2 (tgt := 10) (by decide) (fun hc1 => ?_) (fun hc1 => ?_)
  · refine lv_iconst (v := 1) hx hb d_Model_outside_10 (by decide) ?_
    refine lv_goto hx hb d_Model_outside_11 (tgt := 15) (by decide) ?_
    exact end_z hx hb hr hlocks hS (u := ()) (r := 1) (at_end (hP.sub (ws' := []) [] rfl) (hD.sub (ws' := []) [] (by decide) rfl)) (⟨Or.inr rfl, ⟨fun _ => Or.inl hc1, fun _ => rfl⟩⟩) (by decide) (Nat.le_of_ble_eq_true rfl) (Nat.le_of_ble_eq_true rfl) d_Model_outside_15
  · refine lv_iload_n hx hb d_Model_outside_5 rfl (lv_at hl 0 rfl) ?_
    refine lv_iload_n hx hb d_Model_outside_6 rfl (lv_at hl 2 rfl) ?_
    refine lv_icmp_le hx hb d_Model_outside_7 (tgt := 14) (by decide) (fun hc2 => ?_) (fun hc2 => ?_)
    · refine lv_iconst (v := 0) hx hb d_Model_outside_14 (by decide) ?_
      exact end_z hx hb hr hlocks hS (u := ()) (r := 0) (at_end (hP.sub (ws' := []) [] rfl) (hD.sub (ws' := []) [] (by decide) rfl)) (⟨Or.inl rfl, ⟨fun h => absurd h (by decide), fun h => by rcases h with h | h; exact absurd h hc1; exact absurd h (by have h2 := hc2; simp only [Int32.lt_iff_toInt_lt, Int32.le_iff_toInt_le] at h2 ⊢; omega)⟩⟩) (by decide) (Nat.le_of_ble_eq_true rfl) (Nat.le_of_ble_eq_true rfl) d_Model_outside_15
    · refine lv_iconst (v := 1) hx hb d_Model_outside_10 (by decide) ?_
      refine lv_goto hx hb d_Model_outside_11 (tgt := 15) (by decide) ?_
      exact end_z hx hb hr hlocks hS (u := ()) (r := 1) (at_end (hP.sub (ws' := []) [] rfl) (hD.sub (ws' := []) [] (by decide) rfl)) (⟨Or.inr rfl, ⟨fun _ => Or.inr (by have h := hc2; simp only [Int32.lt_iff_toInt_lt, Int32.le_iff_toInt_le] at h ⊢; omega), fun _ => rfl⟩⟩) (by decide) (Nat.le_of_ble_eq_true rfl) (Nat.le_of_ble_eq_true rfl) d_Model_outside_15

set_option maxHeartbeats 4000000 in
set_option maxRecDepth 100000 in
theorem g_thrown (l : Launch) (D : va_G) (cI cZ cJ : ClassId) (h m_bytes m_w m_saved m_line m_met m_waiting m_nextParent m_kind m_number m_begin m_table m_handlers m_base m_locals m_self m_found m_place m_next m_saidKind m_saidNumber : Nat) (kc rk rn en : Int32) (sz_ fx po le he de sd : Nat) (sz : Nat)  : Met l y_Model_thrown (.code y_Model_thrown prog_10_method_2_code 1 (some .int) :: AW) ({ frames := 0, cells := 0, slots := 0, locals := 0 }) (va_Pc [.ref h] (pre_ D [(h, .inr (8, [.int kc, .ref m_bytes, .int (nI sz_), .ref m_w, .int (nI fx), .int (nI po), .ref m_saved, .int (nI le), .ref m_line, .ref m_met, .ref m_waiting, .ref m_nextParent, .int (nI he), .ref m_kind, .ref m_number, .int (nI de), .ref m_begin, .ref m_table, .ref m_handlers, .ref m_base, .ref m_locals, .ref m_self, .ref m_found, .ref m_place, .ref m_next, .int (nI sd), .ref m_saidKind, .ref m_saidNumber, .int rk, .int rn, .int en]))] [(cI, .int), (cZ, .boolean), (cJ, .long)] sz)) (va_Qi (fun (r : Int32) (u : Unit) => r = kc ∧ True) (fun _ t => post_ D (va_A [(h, .inr (8, [.int kc, .ref m_bytes, .int (nI sz_), .ref m_w, .int (nI fx), .int (nI po), .ref m_saved, .int (nI le), .ref m_line, .ref m_met, .ref m_waiting, .ref m_nextParent, .int (nI he), .ref m_kind, .ref m_number, .int (nI de), .ref m_begin, .ref m_table, .ref m_handlers, .ref m_base, .ref m_locals, .ref m_self, .ref m_found, .ref m_place, .ref m_next, .int (nI sd), .ref m_saidKind, .ref m_saidNumber, .int rk, .int rn, .int en]))] sz) [(h, .inr (8, [.int kc, .ref m_bytes, .int (nI sz_), .ref m_w, .int (nI fx), .int (nI po), .ref m_saved, .int (nI le), .ref m_line, .ref m_met, .ref m_waiting, .ref m_nextParent, .int (nI he), .ref m_kind, .ref m_number, .int (nI de), .ref m_begin, .ref m_table, .ref m_handlers, .ref m_base, .ref m_locals, .ref m_self, .ref m_found, .ref m_place, .ref m_next, .int (nI sd), .ref m_saidKind, .ref m_saidNumber, .int rk, .int rn, .int en]))] t) (va_A [(h, .inr (8, [.int kc, .ref m_bytes, .int (nI sz_), .ref m_w, .int (nI fx), .int (nI po), .ref m_saved, .int (nI le), .ref m_line, .ref m_met, .ref m_waiting, .ref m_nextParent, .int (nI he), .ref m_kind, .ref m_number, .int (nI de), .ref m_begin, .ref m_table, .ref m_handlers, .ref m_base, .ref m_locals, .ref m_self, .ref m_found, .ref m_place, .ref m_next, .int (nI sd), .ref m_saidKind, .ref m_saidNumber, .int rk, .int rn, .int en]))] sz)) 0 0 (va_A [(h, .inr (8, [.int kc, .ref m_bytes, .int (nI sz_), .ref m_w, .int (nI fx), .int (nI po), .ref m_saved, .int (nI le), .ref m_line, .ref m_met, .ref m_waiting, .ref m_nextParent, .int (nI he), .ref m_kind, .ref m_number, .int (nI de), .ref m_begin, .ref m_table, .ref m_handlers, .ref m_base, .ref m_locals, .ref m_self, .ref m_found, .ref m_place, .ref m_next, .int (nI sd), .ref m_saidKind, .ref m_saidNumber, .int rk, .int rn, .int en]))] sz) := by
  refine Met.ofW (cc := prog_10_method_2_code) (maxL := 1) (ret := (some .int)) (by decide) rfl ?_
  intro p e s m args below meth c s₁ B hml hv
  obtain ⟨rfl, rfl, hP, hK, hD0, hT⟩ := hv
  have hx := B.exec
  have hb := B.bytes
  have hr := B.returns
  have hts0 := atoms_spec (ws := .code y_Model_thrown prog_10_method_2_code 1 (some .int) :: AW) B.pre
  have hts : ∀ w ∈ AW, w.before [.ref h].toArray s = true := fun w h => hts0 w (List.mem_cons_of_mem _ h)
  have hown : s.vm.findClass "TaleMachineModel" = some m.cls := findClass_of_methodNamed B.named
  have hlocks := B.notSynchronized
  have hD := hD0.self (sz := s.heap.size)
  generalize hAe : va_A [(h, .inr (8, [.int kc, .ref m_bytes, .int (nI sz_), .ref m_w, .int (nI fx), .int (nI po), .ref m_saved, .int (nI le), .ref m_line, .ref m_met, .ref m_waiting, .ref m_nextParent, .int (nI he), .ref m_kind, .ref m_number, .int (nI de), .ref m_begin, .ref m_table, .ref m_handlers, .ref m_base, .ref m_locals, .ref m_self, .ref m_found, .ref m_place, .ref m_next, .int (nI sd), .ref m_saidKind, .ref m_saidNumber, .int rk, .int rn, .int en]))] s.heap.size = A at hD ⊢
  have hA : ∀ q : Nat, s.heap.size ≤ q → A q := fun q h => by rw [← hAe]; exact Or.inr h
  have hS : va_S A s.heap s.heap [] := va_S.rf
  have hl := lv_entry ([.ref h]) (n := 1) (Nat.le_of_ble_eq_true rfl)
  rw [lg_entry_eq]
  generalize (lg_sl ([.ref h]) ++ List.replicate (1 - (lg_sl ([.ref h])).length) Slot.unset).toArray = ls at hl ⊢
  have hl : lv_has ls 1 [(0, .ref h)] := hl
  refine lv_aload_n hx hb d_Model_thrown_0 rfl (lv_at hl 0 rfl) ?_
  refine va_get (D := D) (ci := 8) (v := .int kc) (C := "TaleMachineModel") (T := F_Model) (N := 31) hx hb hts in_Model hown hK hP 0 rfl rfl 0 (by decide) (hts _ k_628) (fun _ h9 => h9) rfl d_Model_thrown_1 ?_
  exact end_i hx hb hr hlocks hS (u := ()) (r := kc) (at_end (hP.sub (ws' := [(h, .inr (8, [.int kc, .ref m_bytes, .int (nI sz_), .ref m_w, .int (nI fx), .int (nI po), .ref m_saved, .int (nI le), .ref m_line, .ref m_met, .ref m_waiting, .ref m_nextParent, .int (nI he), .ref m_kind, .ref m_number, .int (nI de), .ref m_begin, .ref m_table, .ref m_handlers, .ref m_base, .ref m_locals, .ref m_self, .ref m_found, .ref m_place, .ref m_next, .int (nI sd), .ref m_saidKind, .ref m_saidNumber, .int rk, .int rn, .int en]))]) [0] rfl) (hD.sub (ws' := [(h, .inr (8, [.int kc, .ref m_bytes, .int (nI sz_), .ref m_w, .int (nI fx), .int (nI po), .ref m_saved, .int (nI le), .ref m_line, .ref m_met, .ref m_waiting, .ref m_nextParent, .int (nI he), .ref m_kind, .ref m_number, .int (nI de), .ref m_begin, .ref m_table, .ref m_handlers, .ref m_base, .ref m_locals, .ref m_self, .ref m_found, .ref m_place, .ref m_next, .int (nI sd), .ref m_saidKind, .ref m_saidNumber, .int rk, .int rn, .int en]))]) [0] (by decide) rfl)) (⟨rfl, trivial⟩) (Nat.le_of_ble_eq_true rfl) (Nat.le_of_ble_eq_true rfl) d_Model_thrown_4

set_option maxHeartbeats 4000000 in
set_option maxRecDepth 100000 in
theorem g_refuse (l : Launch) (D : va_G) (cI cZ cJ : ClassId) (h m_bytes m_w m_saved m_line m_met m_waiting m_nextParent m_kind m_number m_begin m_table m_handlers m_base m_locals m_self m_found m_place m_next m_saidKind m_saidNumber : Nat) (kc rk rn en : Int32) (sz_ fx po le he de sd : Nat) (kk_ : Int32) (sz : Nat)  : Met l y_Model_refuse (.code y_Model_refuse prog_10_method_3_code 2 (some .int) :: AW) ({ frames := 0, cells := 0, slots := 0, locals := 0 }) (va_Pc [.ref h, .int kk_] (pre_ D [(h, .inr (8, [.int kc, .ref m_bytes, .int (nI sz_), .ref m_w, .int (nI fx), .int (nI po), .ref m_saved, .int (nI le), .ref m_line, .ref m_met, .ref m_waiting, .ref m_nextParent, .int (nI he), .ref m_kind, .ref m_number, .int (nI de), .ref m_begin, .ref m_table, .ref m_handlers, .ref m_base, .ref m_locals, .ref m_self, .ref m_found, .ref m_place, .ref m_next, .int (nI sd), .ref m_saidKind, .ref m_saidNumber, .int rk, .int rn, .int en]))] [(cI, .int), (cZ, .boolean), (cJ, .long)] sz)) (va_Qi (fun (r : Int32) (u : Unit) => r = 0) (fun _ t => post_ D (va_A [(h, .inr (8, [.int kc, .ref m_bytes, .int (nI sz_), .ref m_w, .int (nI fx), .int (nI po), .ref m_saved, .int (nI le), .ref m_line, .ref m_met, .ref m_waiting, .ref m_nextParent, .int (nI he), .ref m_kind, .ref m_number, .int (nI de), .ref m_begin, .ref m_table, .ref m_handlers, .ref m_base, .ref m_locals, .ref m_self, .ref m_found, .ref m_place, .ref m_next, .int (nI sd), .ref m_saidKind, .ref m_saidNumber, .int rk, .int rn, .int en]))] sz) [(h, .inr (8, [.int kk_, .ref m_bytes, .int (nI sz_), .ref m_w, .int (nI fx), .int (nI po), .ref m_saved, .int (nI le), .ref m_line, .ref m_met, .ref m_waiting, .ref m_nextParent, .int (nI he), .ref m_kind, .ref m_number, .int (nI de), .ref m_begin, .ref m_table, .ref m_handlers, .ref m_base, .ref m_locals, .ref m_self, .ref m_found, .ref m_place, .ref m_next, .int (nI sd), .ref m_saidKind, .ref m_saidNumber, .int rk, .int rn, .int en]))] t) (va_A [(h, .inr (8, [.int kc, .ref m_bytes, .int (nI sz_), .ref m_w, .int (nI fx), .int (nI po), .ref m_saved, .int (nI le), .ref m_line, .ref m_met, .ref m_waiting, .ref m_nextParent, .int (nI he), .ref m_kind, .ref m_number, .int (nI de), .ref m_begin, .ref m_table, .ref m_handlers, .ref m_base, .ref m_locals, .ref m_self, .ref m_found, .ref m_place, .ref m_next, .int (nI sd), .ref m_saidKind, .ref m_saidNumber, .int rk, .int rn, .int en]))] sz)) 0 0 (va_A [(h, .inr (8, [.int kc, .ref m_bytes, .int (nI sz_), .ref m_w, .int (nI fx), .int (nI po), .ref m_saved, .int (nI le), .ref m_line, .ref m_met, .ref m_waiting, .ref m_nextParent, .int (nI he), .ref m_kind, .ref m_number, .int (nI de), .ref m_begin, .ref m_table, .ref m_handlers, .ref m_base, .ref m_locals, .ref m_self, .ref m_found, .ref m_place, .ref m_next, .int (nI sd), .ref m_saidKind, .ref m_saidNumber, .int rk, .int rn, .int en]))] sz) := by
  refine Met.ofW (cc := prog_10_method_3_code) (maxL := 2) (ret := (some .int)) (by decide) rfl ?_
  intro p e s m args below meth c s₁ B hml hv
  obtain ⟨rfl, rfl, hP, hK, hD0, hT⟩ := hv
  have hx := B.exec
  have hb := B.bytes
  have hr := B.returns
  have hts0 := atoms_spec (ws := .code y_Model_refuse prog_10_method_3_code 2 (some .int) :: AW) B.pre
  have hts : ∀ w ∈ AW, w.before [.ref h, .int kk_].toArray s = true := fun w h => hts0 w (List.mem_cons_of_mem _ h)
  have hown : s.vm.findClass "TaleMachineModel" = some m.cls := findClass_of_methodNamed B.named
  have hlocks := B.notSynchronized
  have hD := hD0.self (sz := s.heap.size)
  generalize hAe : va_A [(h, .inr (8, [.int kc, .ref m_bytes, .int (nI sz_), .ref m_w, .int (nI fx), .int (nI po), .ref m_saved, .int (nI le), .ref m_line, .ref m_met, .ref m_waiting, .ref m_nextParent, .int (nI he), .ref m_kind, .ref m_number, .int (nI de), .ref m_begin, .ref m_table, .ref m_handlers, .ref m_base, .ref m_locals, .ref m_self, .ref m_found, .ref m_place, .ref m_next, .int (nI sd), .ref m_saidKind, .ref m_saidNumber, .int rk, .int rn, .int en]))] s.heap.size = A at hD ⊢
  have hA : ∀ q : Nat, s.heap.size ≤ q → A q := fun q h => by rw [← hAe]; exact Or.inr h
  have hS : va_S A s.heap s.heap [] := va_S.rf
  have hl := lv_entry ([.ref h, .int kk_]) (n := 2) (Nat.le_of_ble_eq_true rfl)
  rw [lg_entry_eq]
  generalize (lg_sl ([.ref h, .int kk_]) ++ List.replicate (2 - (lg_sl ([.ref h, .int kk_])).length) Slot.unset).toArray = ls at hl ⊢
  have hl : lv_has ls 2 [(0, .ref h), (1, .int kk_)] := hl
  refine lv_aload_n hx hb d_Model_refuse_0 rfl (lv_at hl 0 rfl) ?_
  refine lv_iload_n hx hb d_Model_refuse_1 rfl (lv_at hl 1 rfl) ?_
  refine va_put (D := D) (ci := 8) (v := .int kk_) (ty := .int) (C := "TaleMachineModel") (T := F_Model) (N := 31) hx hb hts in_Model t_Model t_Model_ok n_Model hown hK hP hD hS 0 rfl rfl 0 (by decide) (hts _ k_628) (fun _ h9 => h9) rfl (by decide +kernel) rfl rfl (Nat.le_of_ble_eq_true rfl) d_Model_refuse_2 (fun H locs hP hD hS => ?_)
  have hP : va_P D cL [(h, .inr (8, [.int kk_, .ref m_bytes, .int (nI sz_), .ref m_w, .int (nI fx), .int (nI po), .ref m_saved, .int (nI le), .ref m_line, .ref m_met, .ref m_waiting, .ref m_nextParent, .int (nI he), .ref m_kind, .ref m_number, .int (nI de), .ref m_begin, .ref m_table, .ref m_handlers, .ref m_base, .ref m_locals, .ref m_self, .ref m_found, .ref m_place, .ref m_next, .int (nI sd), .ref m_saidKind, .ref m_saidNumber, .int rk, .int rn, .int en]))] H := hP
  have hD : va_D A [(h, .inr (8, [.int kk_, .ref m_bytes, .int (nI sz_), .ref m_w, .int (nI fx), .int (nI po), .ref m_saved, .int (nI le), .ref m_line, .ref m_met, .ref m_waiting, .ref m_nextParent, .int (nI he), .ref m_kind, .ref m_number, .int (nI de), .ref m_begin, .ref m_table, .ref m_handlers, .ref m_base, .ref m_locals, .ref m_self, .ref m_found, .ref m_place, .ref m_next, .int (nI sd), .ref m_saidKind, .ref m_saidNumber, .int rk, .int rn, .int en]))] := hD
  refine lv_iconst (v := 0) hx hb d_Model_refuse_5 (by decide) ?_
  exact end_i hx hb hr hlocks hS (u := ()) (r := 0) (at_end (hP.sub (ws' := [(h, .inr (8, [.int kk_, .ref m_bytes, .int (nI sz_), .ref m_w, .int (nI fx), .int (nI po), .ref m_saved, .int (nI le), .ref m_line, .ref m_met, .ref m_waiting, .ref m_nextParent, .int (nI he), .ref m_kind, .ref m_number, .int (nI de), .ref m_begin, .ref m_table, .ref m_handlers, .ref m_base, .ref m_locals, .ref m_self, .ref m_found, .ref m_place, .ref m_next, .int (nI sd), .ref m_saidKind, .ref m_saidNumber, .int rk, .int rn, .int en]))]) [0] rfl) (hD.sub (ws' := [(h, .inr (8, [.int kk_, .ref m_bytes, .int (nI sz_), .ref m_w, .int (nI fx), .int (nI po), .ref m_saved, .int (nI le), .ref m_line, .ref m_met, .ref m_waiting, .ref m_nextParent, .int (nI he), .ref m_kind, .ref m_number, .int (nI de), .ref m_begin, .ref m_table, .ref m_handlers, .ref m_base, .ref m_locals, .ref m_self, .ref m_found, .ref m_place, .ref m_next, .int (nI sd), .ref m_saidKind, .ref m_saidNumber, .int rk, .int rn, .int en]))]) [0] (by decide) rfl)) (rfl) (Nat.le_of_ble_eq_true rfl) (Nat.le_of_ble_eq_true rfl) d_Model_refuse_6

set_option maxHeartbeats 4000000 in
set_option maxRecDepth 100000 in
theorem g_over (l : Launch) (D : va_G) (cI cZ cJ : ClassId) (h m_bytes m_w m_saved m_line m_met m_waiting m_nextParent m_kind m_number m_begin m_table m_handlers m_base m_locals m_self m_found m_place m_next m_saidKind m_saidNumber : Nat) (kc rk rn en : Int32) (sz_ fx po le he de sd : Nat) (kk_ : Int32) (sz : Nat)  : Met l y_Model_over (.code y_Model_over prog_10_method_25_code 2 (some .int) :: AW) ({ frames := 0, cells := 0, slots := 0, locals := 0 }) (va_Pc [.ref h, .int kk_] (pre_ D [(h, .inr (8, [.int kc, .ref m_bytes, .int (nI sz_), .ref m_w, .int (nI fx), .int (nI po), .ref m_saved, .int (nI le), .ref m_line, .ref m_met, .ref m_waiting, .ref m_nextParent, .int (nI he), .ref m_kind, .ref m_number, .int (nI de), .ref m_begin, .ref m_table, .ref m_handlers, .ref m_base, .ref m_locals, .ref m_self, .ref m_found, .ref m_place, .ref m_next, .int (nI sd), .ref m_saidKind, .ref m_saidNumber, .int rk, .int rn, .int en]))] [(cI, .int), (cZ, .boolean), (cJ, .long)] sz)) (va_Qi (fun (r : Int32) (u : Unit) => r = kk_) (fun _ t => post_ D (va_A [(h, .inr (8, [.int kc, .ref m_bytes, .int (nI sz_), .ref m_w, .int (nI fx), .int (nI po), .ref m_saved, .int (nI le), .ref m_line, .ref m_met, .ref m_waiting, .ref m_nextParent, .int (nI he), .ref m_kind, .ref m_number, .int (nI de), .ref m_begin, .ref m_table, .ref m_handlers, .ref m_base, .ref m_locals, .ref m_self, .ref m_found, .ref m_place, .ref m_next, .int (nI sd), .ref m_saidKind, .ref m_saidNumber, .int rk, .int rn, .int en]))] sz) [(h, .inr (8, [.int kc, .ref m_bytes, .int (nI sz_), .ref m_w, .int (nI fx), .int 0, .ref m_saved, .int (nI le), .ref m_line, .ref m_met, .ref m_waiting, .ref m_nextParent, .int (nI he), .ref m_kind, .ref m_number, .int (nI de), .ref m_begin, .ref m_table, .ref m_handlers, .ref m_base, .ref m_locals, .ref m_self, .ref m_found, .ref m_place, .ref m_next, .int (nI sd), .ref m_saidKind, .ref m_saidNumber, .int rk, .int rn, .int kk_]))] t) (va_A [(h, .inr (8, [.int kc, .ref m_bytes, .int (nI sz_), .ref m_w, .int (nI fx), .int (nI po), .ref m_saved, .int (nI le), .ref m_line, .ref m_met, .ref m_waiting, .ref m_nextParent, .int (nI he), .ref m_kind, .ref m_number, .int (nI de), .ref m_begin, .ref m_table, .ref m_handlers, .ref m_base, .ref m_locals, .ref m_self, .ref m_found, .ref m_place, .ref m_next, .int (nI sd), .ref m_saidKind, .ref m_saidNumber, .int rk, .int rn, .int en]))] sz)) 0 0 (va_A [(h, .inr (8, [.int kc, .ref m_bytes, .int (nI sz_), .ref m_w, .int (nI fx), .int (nI po), .ref m_saved, .int (nI le), .ref m_line, .ref m_met, .ref m_waiting, .ref m_nextParent, .int (nI he), .ref m_kind, .ref m_number, .int (nI de), .ref m_begin, .ref m_table, .ref m_handlers, .ref m_base, .ref m_locals, .ref m_self, .ref m_found, .ref m_place, .ref m_next, .int (nI sd), .ref m_saidKind, .ref m_saidNumber, .int rk, .int rn, .int en]))] sz) := by
  refine Met.ofW (cc := prog_10_method_25_code) (maxL := 2) (ret := (some .int)) (by decide) rfl ?_
  intro p e s m args below meth c s₁ B hml hv
  obtain ⟨rfl, rfl, hP, hK, hD0, hT⟩ := hv
  have hx := B.exec
  have hb := B.bytes
  have hr := B.returns
  have hts0 := atoms_spec (ws := .code y_Model_over prog_10_method_25_code 2 (some .int) :: AW) B.pre
  have hts : ∀ w ∈ AW, w.before [.ref h, .int kk_].toArray s = true := fun w h => hts0 w (List.mem_cons_of_mem _ h)
  have hown : s.vm.findClass "TaleMachineModel" = some m.cls := findClass_of_methodNamed B.named
  have hlocks := B.notSynchronized
  have hD := hD0.self (sz := s.heap.size)
  generalize hAe : va_A [(h, .inr (8, [.int kc, .ref m_bytes, .int (nI sz_), .ref m_w, .int (nI fx), .int (nI po), .ref m_saved, .int (nI le), .ref m_line, .ref m_met, .ref m_waiting, .ref m_nextParent, .int (nI he), .ref m_kind, .ref m_number, .int (nI de), .ref m_begin, .ref m_table, .ref m_handlers, .ref m_base, .ref m_locals, .ref m_self, .ref m_found, .ref m_place, .ref m_next, .int (nI sd), .ref m_saidKind, .ref m_saidNumber, .int rk, .int rn, .int en]))] s.heap.size = A at hD ⊢
  have hA : ∀ q : Nat, s.heap.size ≤ q → A q := fun q h => by rw [← hAe]; exact Or.inr h
  have hS : va_S A s.heap s.heap [] := va_S.rf
  have hl := lv_entry ([.ref h, .int kk_]) (n := 2) (Nat.le_of_ble_eq_true rfl)
  rw [lg_entry_eq]
  generalize (lg_sl ([.ref h, .int kk_]) ++ List.replicate (2 - (lg_sl ([.ref h, .int kk_])).length) Slot.unset).toArray = ls at hl ⊢
  have hl : lv_has ls 2 [(0, .ref h), (1, .int kk_)] := hl
  refine lv_aload_n hx hb d_Model_over_0 rfl (lv_at hl 0 rfl) ?_
  refine lv_iload_n hx hb d_Model_over_1 rfl (lv_at hl 1 rfl) ?_
  refine va_put (D := D) (ci := 8) (v := .int kk_) (ty := .int) (C := "TaleMachineModel") (T := F_Model) (N := 31) hx hb hts in_Model t_Model t_Model_ok n_Model hown hK hP hD hS 0 rfl rfl 30 (by decide) (hts _ k_658) (fun _ h9 => h9) rfl (by decide +kernel) rfl rfl (Nat.le_of_ble_eq_true rfl) d_Model_over_2 (fun H locs hP hD hS => ?_)
  have hP : va_P D cL [(h, .inr (8, [.int kc, .ref m_bytes, .int (nI sz_), .ref m_w, .int (nI fx), .int (nI po), .ref m_saved, .int (nI le), .ref m_line, .ref m_met, .ref m_waiting, .ref m_nextParent, .int (nI he), .ref m_kind, .ref m_number, .int (nI de), .ref m_begin, .ref m_table, .ref m_handlers, .ref m_base, .ref m_locals, .ref m_self, .ref m_found, .ref m_place, .ref m_next, .int (nI sd), .ref m_saidKind, .ref m_saidNumber, .int rk, .int rn, .int kk_]))] H := hP
  have hD : va_D A [(h, .inr (8, [.int kc, .ref m_bytes, .int (nI sz_), .ref m_w, .int (nI fx), .int (nI po), .ref m_saved, .int (nI le), .ref m_line, .ref m_met, .ref m_waiting, .ref m_nextParent, .int (nI he), .ref m_kind, .ref m_number, .int (nI de), .ref m_begin, .ref m_table, .ref m_handlers, .ref m_base, .ref m_locals, .ref m_self, .ref m_found, .ref m_place, .ref m_next, .int (nI sd), .ref m_saidKind, .ref m_saidNumber, .int rk, .int rn, .int kk_]))] := hD
  refine lv_aload_n hx hb d_Model_over_5 rfl (lv_at hl 0 rfl) ?_
  refine lv_iconst (v := 0) hx hb d_Model_over_6 (by decide) ?_
  refine va_put (D := D) (ci := 8) (v := .int 0) (ty := .int) (C := "TaleMachineModel") (T := F_Model) (N := 31) hx hb hts in_Model t_Model t_Model_ok n_Model hown hK hP hD hS 0 rfl rfl 5 (by decide) (hts _ k_633) (fun _ h9 => h9) rfl (by decide +kernel) rfl rfl (Nat.le_of_ble_eq_true rfl) d_Model_over_7 (fun H locs hP hD hS => ?_)
  have hP : va_P D cL [(h, .inr (8, [.int kc, .ref m_bytes, .int (nI sz_), .ref m_w, .int (nI fx), .int 0, .ref m_saved, .int (nI le), .ref m_line, .ref m_met, .ref m_waiting, .ref m_nextParent, .int (nI he), .ref m_kind, .ref m_number, .int (nI de), .ref m_begin, .ref m_table, .ref m_handlers, .ref m_base, .ref m_locals, .ref m_self, .ref m_found, .ref m_place, .ref m_next, .int (nI sd), .ref m_saidKind, .ref m_saidNumber, .int rk, .int rn, .int kk_]))] H := hP
  have hD : va_D A [(h, .inr (8, [.int kc, .ref m_bytes, .int (nI sz_), .ref m_w, .int (nI fx), .int 0, .ref m_saved, .int (nI le), .ref m_line, .ref m_met, .ref m_waiting, .ref m_nextParent, .int (nI he), .ref m_kind, .ref m_number, .int (nI de), .ref m_begin, .ref m_table, .ref m_handlers, .ref m_base, .ref m_locals, .ref m_self, .ref m_found, .ref m_place, .ref m_next, .int (nI sd), .ref m_saidKind, .ref m_saidNumber, .int rk, .int rn, .int kk_]))] := hD
  refine lv_iload_n hx hb d_Model_over_10 rfl (lv_at hl 1 rfl) ?_
  exact end_i hx hb hr hlocks hS (u := ()) (r := kk_) (at_end (hP.sub (ws' := [(h, .inr (8, [.int kc, .ref m_bytes, .int (nI sz_), .ref m_w, .int (nI fx), .int 0, .ref m_saved, .int (nI le), .ref m_line, .ref m_met, .ref m_waiting, .ref m_nextParent, .int (nI he), .ref m_kind, .ref m_number, .int (nI de), .ref m_begin, .ref m_table, .ref m_handlers, .ref m_base, .ref m_locals, .ref m_self, .ref m_found, .ref m_place, .ref m_next, .int (nI sd), .ref m_saidKind, .ref m_saidNumber, .int rk, .int rn, .int kk_]))]) [0] rfl) (hD.sub (ws' := [(h, .inr (8, [.int kc, .ref m_bytes, .int (nI sz_), .ref m_w, .int (nI fx), .int 0, .ref m_saved, .int (nI le), .ref m_line, .ref m_met, .ref m_waiting, .ref m_nextParent, .int (nI he), .ref m_kind, .ref m_number, .int (nI de), .ref m_begin, .ref m_table, .ref m_handlers, .ref m_base, .ref m_locals, .ref m_self, .ref m_found, .ref m_place, .ref m_next, .int (nI sd), .ref m_saidKind, .ref m_saidNumber, .int rk, .int rn, .int kk_]))]) [0] (by decide) rfl)) (rfl) (Nat.le_of_ble_eq_true rfl) (Nat.le_of_ble_eq_true rfl) d_Model_over_11

set_option maxHeartbeats 4000000 in
set_option maxRecDepth 100000 in
theorem g_placeOf (l : Launch) (D : va_G) (cI cZ cJ : ClassId) (h : Nat) (oo p_ : Nat) (sz : Nat)  : Met l y_Model_placeOf (.code y_Model_placeOf prog_10_method_8_code 3 (some .int) :: AW) ({ frames := 0, cells := 0, slots := 0, locals := 0 }) (va_Pc [.ref h, .int (nI oo), .int (nI p_)] (pre_ D [] [(cI, .int), (cZ, .boolean), (cJ, .long)] sz)) (va_Qi (fun (r : Int32) (u : Unit) => r = nI (29 * oo + 5 + 3 * p_)) (fun _ t => post_ D (va_A [] sz) [] t) (va_A [] sz)) 0 0 (va_A [] sz) := by
  refine Met.ofW (cc := prog_10_method_8_code) (maxL := 3) (ret := (some .int)) (by decide) rfl ?_
  intro p e s m args below meth c s₁ B hml hv
  obtain ⟨rfl, rfl, hP, hK, hD0, hT⟩ := hv
  have hx := B.exec
  have hb := B.bytes
  have hr := B.returns
  have hts0 := atoms_spec (ws := .code y_Model_placeOf prog_10_method_8_code 3 (some .int) :: AW) B.pre
  have hts : ∀ w ∈ AW, w.before [.ref h, .int (nI oo), .int (nI p_)].toArray s = true := fun w h => hts0 w (List.mem_cons_of_mem _ h)
  have hown : s.vm.findClass "TaleMachineModel" = some m.cls := findClass_of_methodNamed B.named
  have hlocks := B.notSynchronized
  have hD := hD0.self (sz := s.heap.size)
  generalize hAe : va_A [] s.heap.size = A at hD ⊢
  have hA : ∀ q : Nat, s.heap.size ≤ q → A q := fun q h => by rw [← hAe]; exact Or.inr h
  have hS : va_S A s.heap s.heap [] := va_S.rf
  have hl := lv_entry ([.ref h, .int (nI oo), .int (nI p_)]) (n := 3) (Nat.le_of_ble_eq_true rfl)
  rw [lg_entry_eq]
  generalize (lg_sl ([.ref h, .int (nI oo), .int (nI p_)]) ++ List.replicate (3 - (lg_sl ([.ref h, .int (nI oo), .int (nI p_)])).length) Slot.unset).toArray = ls at hl ⊢
  have hl : lv_has ls 3 [(0, .ref h), (1, .int (nI oo)), (2, .int (nI p_))] := hl
  refine lv_bipush (v := 29) hx hb d_Model_placeOf_0 (by decide) ?_
  refine lv_iload_n hx hb d_Model_placeOf_2 rfl (lv_at hl 1 rfl) ?_
  refine lv_imul hx hb d_Model_placeOf_3 ?_
  refine lv_topi (fun z1 hz1 => ?_)
  obtain rfl : z1 = nI (29 * oo) := hz1.trans (pk_mul 29 oo)
  refine lv_iconst (v := 5) hx hb d_Model_placeOf_4 (by decide) ?_
  refine lv_iadd hx hb d_Model_placeOf_5 ?_
  refine lv_topi (fun z2 hz2 => ?_)
  obtain rfl : z2 = nI ((29 * oo) + 5) := hz2.trans (nI_add (29 * oo) 5)
  refine lv_iconst (v := 3) hx hb d_Model_placeOf_6 (by decide) ?_
  refine lv_iload_n hx hb d_Model_placeOf_7 rfl (lv_at hl 2 rfl) ?_
  refine lv_imul hx hb d_Model_placeOf_8 ?_
  refine lv_topi (fun z3 hz3 => ?_)
  obtain rfl : z3 = nI (3 * p_) := hz3.trans (pk_mul 3 p_)
  refine lv_iadd hx hb d_Model_placeOf_9 ?_
  refine lv_topi (fun z4 hz4 => ?_)
  obtain rfl : z4 = nI (((29 * oo) + 5) + (3 * p_)) := hz4.trans (nI_add ((29 * oo) + 5) (3 * p_))
  exact end_i hx hb hr hlocks hS (u := ()) (r := (nI (((29 * oo) + 5) + (3 * p_)))) (at_end (hP.sub (ws' := []) [] rfl) (hD.sub (ws' := []) [] (by decide) rfl)) (rfl) (Nat.le_of_ble_eq_true rfl) (Nat.le_of_ble_eq_true rfl) d_Model_placeOf_10

set_option maxHeartbeats 4000000 in
set_option maxRecDepth 100000 in
theorem g_isThere (l : Launch) (D : va_G) (cI cZ cJ : ClassId) (h m_bytes m_w m_saved m_line m_met m_waiting m_nextParent m_kind m_number m_begin m_table m_handlers m_base m_locals m_self m_found m_place m_next m_saidKind m_saidNumber : Nat) (kc rk rn en : Int32) (sz_ fx po le he de sd : Nat) (oo : Int32) (fw : Nat → Int32) (sz : Nat)  : Met l y_Model_isThere (.code y_Model_isThere prog_10_method_5_code 2 (some .boolean) :: AW) ({ frames := 1, cells := 0, slots := 0, locals := 22 }) (va_Pc [.ref h, .int oo] (pre_ D [(h, .inr (8, [.int kc, .ref m_bytes, .int (nI sz_), .ref m_w, .int (nI fx), .int (nI po), .ref m_saved, .int (nI le), .ref m_line, .ref m_met, .ref m_waiting, .ref m_nextParent, .int (nI he), .ref m_kind, .ref m_number, .int (nI de), .ref m_begin, .ref m_table, .ref m_handlers, .ref m_base, .ref m_locals, .ref m_self, .ref m_found, .ref m_place, .ref m_next, .int (nI sd), .ref m_saidKind, .ref m_saidNumber, .int rk, .int rn, .int en])), (m_w, .inl (cI, 5568, .inl fw))] [(cI, .int), (cZ, .boolean), (cJ, .long)] sz)) (va_Qi (fun (r : Int32) (u : Unit) => (r = 0 ∨ r = 1) ∧ (r = 1 ↔ ∃ j, j < 32 ∧ oo = nI j ∧ fw (29 * j) = 1)) (fun _ t => post_ D (va_A [(h, .inr (8, [.int kc, .ref m_bytes, .int (nI sz_), .ref m_w, .int (nI fx), .int (nI po), .ref m_saved, .int (nI le), .ref m_line, .ref m_met, .ref m_waiting, .ref m_nextParent, .int (nI he), .ref m_kind, .ref m_number, .int (nI de), .ref m_begin, .ref m_table, .ref m_handlers, .ref m_base, .ref m_locals, .ref m_self, .ref m_found, .ref m_place, .ref m_next, .int (nI sd), .ref m_saidKind, .ref m_saidNumber, .int rk, .int rn, .int en])), (m_w, .inl (cI, 5568, .inl fw))] sz) [(h, .inr (8, [.int kc, .ref m_bytes, .int (nI sz_), .ref m_w, .int (nI fx), .int (nI po), .ref m_saved, .int (nI le), .ref m_line, .ref m_met, .ref m_waiting, .ref m_nextParent, .int (nI he), .ref m_kind, .ref m_number, .int (nI de), .ref m_begin, .ref m_table, .ref m_handlers, .ref m_base, .ref m_locals, .ref m_self, .ref m_found, .ref m_place, .ref m_next, .int (nI sd), .ref m_saidKind, .ref m_saidNumber, .int rk, .int rn, .int en])), (m_w, .inl (cI, 5568, .inl fw))] t) (va_A [(h, .inr (8, [.int kc, .ref m_bytes, .int (nI sz_), .ref m_w, .int (nI fx), .int (nI po), .ref m_saved, .int (nI le), .ref m_line, .ref m_met, .ref m_waiting, .ref m_nextParent, .int (nI he), .ref m_kind, .ref m_number, .int (nI de), .ref m_begin, .ref m_table, .ref m_handlers, .ref m_base, .ref m_locals, .ref m_self, .ref m_found, .ref m_place, .ref m_next, .int (nI sd), .ref m_saidKind, .ref m_saidNumber, .int rk, .int rn, .int en])), (m_w, .inl (cI, 5568, .inl fw))] sz)) 0 0 (va_A [(h, .inr (8, [.int kc, .ref m_bytes, .int (nI sz_), .ref m_w, .int (nI fx), .int (nI po), .ref m_saved, .int (nI le), .ref m_line, .ref m_met, .ref m_waiting, .ref m_nextParent, .int (nI he), .ref m_kind, .ref m_number, .int (nI de), .ref m_begin, .ref m_table, .ref m_handlers, .ref m_base, .ref m_locals, .ref m_self, .ref m_found, .ref m_place, .ref m_next, .int (nI sd), .ref m_saidKind, .ref m_saidNumber, .int rk, .int rn, .int en])), (m_w, .inl (cI, 5568, .inl fw))] sz) := by
  refine Met.ofW (cc := prog_10_method_5_code) (maxL := 2) (ret := (some .boolean)) (by decide) rfl ?_
  intro p e s m args below meth c s₁ B hml hv
  obtain ⟨rfl, rfl, hP, hK, hD0, hT⟩ := hv
  have hx := B.exec
  have hb := B.bytes
  have hr := B.returns
  have hts0 := atoms_spec (ws := .code y_Model_isThere prog_10_method_5_code 2 (some .boolean) :: AW) B.pre
  have hts : ∀ w ∈ AW, w.before [.ref h, .int oo].toArray s = true := fun w h => hts0 w (List.mem_cons_of_mem _ h)
  have hown : s.vm.findClass "TaleMachineModel" = some m.cls := findClass_of_methodNamed B.named
  have hlocks := B.notSynchronized
  have hD := hD0.self (sz := s.heap.size)
  generalize hAe : va_A [(h, .inr (8, [.int kc, .ref m_bytes, .int (nI sz_), .ref m_w, .int (nI fx), .int (nI po), .ref m_saved, .int (nI le), .ref m_line, .ref m_met, .ref m_waiting, .ref m_nextParent, .int (nI he), .ref m_kind, .ref m_number, .int (nI de), .ref m_begin, .ref m_table, .ref m_handlers, .ref m_base, .ref m_locals, .ref m_self, .ref m_found, .ref m_place, .ref m_next, .int (nI sd), .ref m_saidKind, .ref m_saidNumber, .int rk, .int rn, .int en])), (m_w, .inl (cI, 5568, .inl fw))] s.heap.size = A at hD ⊢
  have hA : ∀ q : Nat, s.heap.size ≤ q → A q := fun q h => by rw [← hAe]; exact Or.inr h
  have hS : va_S A s.heap s.heap [] := va_S.rf
  have hl := lv_entry ([.ref h, .int oo]) (n := 2) (Nat.le_of_ble_eq_true rfl)
  rw [lg_entry_eq]
  generalize (lg_sl ([.ref h, .int oo]) ++ List.replicate (2 - (lg_sl ([.ref h, .int oo])).length) Slot.unset).toArray = ls at hl ⊢
  have hl : lv_has ls 2 [(0, .ref h), (1, .int oo)] := hl
  refine lv_iload_n hx hb d_Model_isThere_0 rfl (lv_at hl 1 rfl) ?_
  refine lv_iconst (v := 0) hx hb d_Model_isThere_1 (by decide) ?_
  refine lv_bipush (v := 31) hx hb d_Model_isThere_2 (by decide) ?_
  refine mv_i (va_runS (As := [.int oo, .int 0, .int 31]) (rest := []) ⟨hx, hb, hml, hown, hts⟩ (g_outside l D cI cZ cJ oo 0 31 _ ) (va_cwS 3 hts (gInS k_698 k_699 k_10 k_700) rfl rfl rfl (by decide +kernel) ⟨Nat.le_of_ble_eq_true rfl, Nat.le_of_ble_eq_true rfl⟩) (pre_S (hP.sub [] rfl) (hK.sub [0, 1, 2] rfl) (hD.sub [] (by decide) rfl) hT) rfl rfl hl.1 rfl (lv_room (Nat.le_of_ble_eq_true rfl)) d_Model_isThere_4 ⟨Nat.le_of_ble_eq_true rfl, Nat.le_of_ble_eq_true rfl⟩) hP hD hS hA [] [0, 1] rfl rfl (by decide) (by decide) (wr := [(h, .inr (8, [.int kc, .ref m_bytes, .int (nI sz_), .ref m_w, .int (nI fx), .int (nI po), .ref m_saved, .int (nI le), .ref m_line, .ref m_met, .ref m_waiting, .ref m_nextParent, .int (nI he), .ref m_kind, .ref m_number, .int (nI de), .ref m_begin, .ref m_table, .ref m_handlers, .ref m_base, .ref m_locals, .ref m_self, .ref m_found, .ref m_place, .ref m_next, .int (nI sd), .ref m_saidKind, .ref m_saidNumber, .int rk, .int rn, .int en])), (m_w, .inl (cI, 5568, .inl fw))]) (wn := fun _ => []) (fun _ _ h9 => h9) (fun r1 _ H locs hp2 hP hD hS => ?_)
  have hP : va_P D cL [(h, .inr (8, [.int kc, .ref m_bytes, .int (nI sz_), .ref m_w, .int (nI fx), .int (nI po), .ref m_saved, .int (nI le), .ref m_line, .ref m_met, .ref m_waiting, .ref m_nextParent, .int (nI he), .ref m_kind, .ref m_number, .int (nI de), .ref m_begin, .ref m_table, .ref m_handlers, .ref m_base, .ref m_locals, .ref m_self, .ref m_found, .ref m_place, .ref m_next, .int (nI sd), .ref m_saidKind, .ref m_saidNumber, .int rk, .int rn, .int en])), (m_w, .inl (cI, 5568, .inl fw))] H := hP
  have hD : va_D A [(h, .inr (8, [.int kc, .ref m_bytes, .int (nI sz_), .ref m_w, .int (nI fx), .int (nI po), .ref m_saved, .int (nI le), .ref m_line, .ref m_met, .ref m_waiting, .ref m_nextParent, .int (nI he), .ref m_kind, .ref m_number, .int (nI de), .ref m_begin, .ref m_table, .ref m_handlers, .ref m_base, .ref m_locals, .ref m_self, .ref m_found, .ref m_place, .ref m_next, .int (nI sd), .ref m_saidKind, .ref m_saidNumber, .int rk, .int rn, .int en])), (m_w, .inl (cI, 5568, .inl fw))] := hD
  refine lv_if_ne hx hb d_Model_isThere_7 (tgt := 27) (by decide) (fun hc3 => ?_) (fun hc3 => ?_)
  · refine lv_iconst (v := 0) hx hb d_Model_isThere_27 (by decide) ?_
    exact end_z hx hb hr hlocks hS (u := ()) (r := 0) (at_end (hP.sub (ws' := [(h, .inr (8, [.int kc, .ref m_bytes, .int (nI sz_), .ref m_w, .int (nI fx), .int (nI po), .ref m_saved, .int (nI le), .ref m_line, .ref m_met, .ref m_waiting, .ref m_nextParent, .int (nI he), .ref m_kind, .ref m_number, .int (nI de), .ref m_begin, .ref m_table, .ref m_handlers, .ref m_base, .ref m_locals, .ref m_self, .ref m_found, .ref m_place, .ref m_next, .int (nI sd), .ref m_saidKind, .ref m_saidNumber, .int rk, .int rn, .int en])), (m_w, .inl (cI, 5568, .inl fw))]) [0, 1] rfl) (hD.sub (ws' := [(h, .inr (8, [.int kc, .ref m_bytes, .int (nI sz_), .ref m_w, .int (nI fx), .int (nI po), .ref m_saved, .int (nI le), .ref m_line, .ref m_met, .ref m_waiting, .ref m_nextParent, .int (nI he), .ref m_kind, .ref m_number, .int (nI de), .ref m_begin, .ref m_table, .ref m_handlers, .ref m_base, .ref m_locals, .ref m_self, .ref m_found, .ref m_place, .ref m_next, .int (nI sd), .ref m_saidKind, .ref m_saidNumber, .int rk, .int rn, .int en])), (m_w, .inl (cI, 5568, .inl fw))]) [0, 1] (by decide) rfl)) (⟨Or.inl rfl, ⟨fun h9 => absurd h9 (by decide), fun ⟨j, hj, he9, _⟩ => by subst he9; exact absurd (hp2.2.mp (by rcases hp2.1 with h9 | h9; exact absurd h9 hc3; exact h9)) (ix31n hj)⟩⟩) (by decide) (Nat.le_of_ble_eq_true rfl) (Nat.le_of_ble_eq_true rfl) d_Model_isThere_28
  · refine lv_aload_n hx hb d_Model_isThere_10 rfl (lv_at hl 0 rfl) ?_
    refine va_get (D := D) (ci := 8) (v := .ref m_w) (C := "TaleMachineModel") (T := F_Model) (N := 31) hx hb hts in_Model hown hK hP 0 rfl rfl 3 (by decide) (hts _ k_631) (fun _ h9 => h9) rfl d_Model_isThere_11 ?_
    obtain ⟨j, hj, hje⟩ := ix31 (fun hh => absurd (hp2.2.mpr hh) (by rw [hc3]; decide))
    subst hje
    refine lv_bipush (v := 29) hx hb d_Model_isThere_14 (by decide) ?_
    refine lv_iload_n hx hb d_Model_isThere_16 rfl (lv_at hl 1 rfl) ?_
    refine lv_imul hx hb d_Model_isThere_17 ?_
    refine lv_topi (fun z4 hz4 => ?_)
    obtain rfl : z4 = nI (29 * j) := hz4.trans (pk_mul 29 j)
    refine ia_ld hx hb hK hP 1 0 rfl rfl (k := 29 * j) (by omega) (by first | decide | assumption) d_Model_isThere_18 ?_
    refine lv_iconst (v := 1) hx hb d_Model_isThere_19 (by decide) ?_
    refine lv_icmp_ne hx hb d_Model_isThere_20 (tgt := 27) (by decide) (fun hc5 => ?_) (fun hc5 => ?_)
    · refine lv_iconst (v := 0) hx hb d_Model_isThere_27 (by decide) ?_
      exact end_z hx hb hr hlocks hS (u := ()) (r := 0) (at_end (hP.sub (ws' := [(h, .inr (8, [.int kc, .ref m_bytes, .int (nI sz_), .ref m_w, .int (nI fx), .int (nI po), .ref m_saved, .int (nI le), .ref m_line, .ref m_met, .ref m_waiting, .ref m_nextParent, .int (nI he), .ref m_kind, .ref m_number, .int (nI de), .ref m_begin, .ref m_table, .ref m_handlers, .ref m_base, .ref m_locals, .ref m_self, .ref m_found, .ref m_place, .ref m_next, .int (nI sd), .ref m_saidKind, .ref m_saidNumber, .int rk, .int rn, .int en])), (m_w, .inl (cI, 5568, .inl fw))]) [0, 1] rfl) (hD.sub (ws' := [(h, .inr (8, [.int kc, .ref m_bytes, .int (nI sz_), .ref m_w, .int (nI fx), .int (nI po), .ref m_saved, .int (nI le), .ref m_line, .ref m_met, .ref m_waiting, .ref m_nextParent, .int (nI he), .ref m_kind, .ref m_number, .int (nI de), .ref m_begin, .ref m_table, .ref m_handlers, .ref m_base, .ref m_locals, .ref m_self, .ref m_found, .ref m_place, .ref m_next, .int (nI sd), .ref m_saidKind, .ref m_saidNumber, .int rk, .int rn, .int en])), (m_w, .inl (cI, 5568, .inl fw))]) [0, 1] (by decide) rfl)) (⟨Or.inl rfl, ⟨fun h9 => absurd h9 (by decide), fun ⟨j2, hj2, he9, hw9⟩ => absurd (by rw [(nI_eq (by omega) (by omega)).mp he9]; exact hw9) hc5⟩⟩) (by decide) (Nat.le_of_ble_eq_true rfl) (Nat.le_of_ble_eq_true rfl) d_Model_isThere_28
    · refine lv_iconst (v := 1) hx hb d_Model_isThere_23 (by decide) ?_
      refine lv_goto hx hb d_Model_isThere_24 (tgt := 28) (by decide) ?_
      exact end_z hx hb hr hlocks hS (u := ()) (r := 1) (at_end (hP.sub (ws' := [(h, .inr (8, [.int kc, .ref m_bytes, .int (nI sz_), .ref m_w, .int (nI fx), .int (nI po), .ref m_saved, .int (nI le), .ref m_line, .ref m_met, .ref m_waiting, .ref m_nextParent, .int (nI he), .ref m_kind, .ref m_number, .int (nI de), .ref m_begin, .ref m_table, .ref m_handlers, .ref m_base, .ref m_locals, .ref m_self, .ref m_found, .ref m_place, .ref m_next, .int (nI sd), .ref m_saidKind, .ref m_saidNumber, .int rk, .int rn, .int en])), (m_w, .inl (cI, 5568, .inl fw))]) [0, 1] rfl) (hD.sub (ws' := [(h, .inr (8, [.int kc, .ref m_bytes, .int (nI sz_), .ref m_w, .int (nI fx), .int (nI po), .ref m_saved, .int (nI le), .ref m_line, .ref m_met, .ref m_waiting, .ref m_nextParent, .int (nI he), .ref m_kind, .ref m_number, .int (nI de), .ref m_begin, .ref m_table, .ref m_handlers, .ref m_base, .ref m_locals, .ref m_self, .ref m_found, .ref m_place, .ref m_next, .int (nI sd), .ref m_saidKind, .ref m_saidNumber, .int rk, .int rn, .int en])), (m_w, .inl (cI, 5568, .inl fw))]) [0, 1] (by decide) rfl)) (⟨Or.inr rfl, ⟨fun _ => ⟨j, hj, rfl, hc5⟩, fun _ => rfl⟩⟩) (by decide) (Nat.le_of_ble_eq_true rfl) (Nat.le_of_ble_eq_true rfl) d_Model_isThere_28

set_option maxHeartbeats 4000000 in
set_option maxRecDepth 100000 in
theorem g_parents (l : Launch) (D : va_G) (cI cZ cJ : ClassId) (h m_bytes m_w m_saved m_line m_met m_waiting m_nextParent m_kind m_number m_begin m_table m_handlers m_base m_locals m_self m_found m_place m_next m_saidKind m_saidNumber : Nat) (kc rk rn en : Int32) (sz_ fx po le he de sd : Nat) (oo : Nat) (fw : Nat → Int32) (sz : Nat) (ho : oo < 32) : Met l y_Model_parents (.code y_Model_parents prog_10_method_6_code 2 (some .int) :: AW) ({ frames := 0, cells := 0, slots := 0, locals := 0 }) (va_Pc [.ref h, .int (nI oo)] (pre_ D [(h, .inr (8, [.int kc, .ref m_bytes, .int (nI sz_), .ref m_w, .int (nI fx), .int (nI po), .ref m_saved, .int (nI le), .ref m_line, .ref m_met, .ref m_waiting, .ref m_nextParent, .int (nI he), .ref m_kind, .ref m_number, .int (nI de), .ref m_begin, .ref m_table, .ref m_handlers, .ref m_base, .ref m_locals, .ref m_self, .ref m_found, .ref m_place, .ref m_next, .int (nI sd), .ref m_saidKind, .ref m_saidNumber, .int rk, .int rn, .int en])), (m_w, .inl (cI, 5568, .inl fw))] [(cI, .int), (cZ, .boolean), (cJ, .long)] sz)) (va_Qi (fun (r : Int32) (u : Unit) => r = fw (29 * oo + 1)) (fun _ t => post_ D (va_A [(h, .inr (8, [.int kc, .ref m_bytes, .int (nI sz_), .ref m_w, .int (nI fx), .int (nI po), .ref m_saved, .int (nI le), .ref m_line, .ref m_met, .ref m_waiting, .ref m_nextParent, .int (nI he), .ref m_kind, .ref m_number, .int (nI de), .ref m_begin, .ref m_table, .ref m_handlers, .ref m_base, .ref m_locals, .ref m_self, .ref m_found, .ref m_place, .ref m_next, .int (nI sd), .ref m_saidKind, .ref m_saidNumber, .int rk, .int rn, .int en])), (m_w, .inl (cI, 5568, .inl fw))] sz) [(h, .inr (8, [.int kc, .ref m_bytes, .int (nI sz_), .ref m_w, .int (nI fx), .int (nI po), .ref m_saved, .int (nI le), .ref m_line, .ref m_met, .ref m_waiting, .ref m_nextParent, .int (nI he), .ref m_kind, .ref m_number, .int (nI de), .ref m_begin, .ref m_table, .ref m_handlers, .ref m_base, .ref m_locals, .ref m_self, .ref m_found, .ref m_place, .ref m_next, .int (nI sd), .ref m_saidKind, .ref m_saidNumber, .int rk, .int rn, .int en])), (m_w, .inl (cI, 5568, .inl fw))] t) (va_A [(h, .inr (8, [.int kc, .ref m_bytes, .int (nI sz_), .ref m_w, .int (nI fx), .int (nI po), .ref m_saved, .int (nI le), .ref m_line, .ref m_met, .ref m_waiting, .ref m_nextParent, .int (nI he), .ref m_kind, .ref m_number, .int (nI de), .ref m_begin, .ref m_table, .ref m_handlers, .ref m_base, .ref m_locals, .ref m_self, .ref m_found, .ref m_place, .ref m_next, .int (nI sd), .ref m_saidKind, .ref m_saidNumber, .int rk, .int rn, .int en])), (m_w, .inl (cI, 5568, .inl fw))] sz)) 0 0 (va_A [(h, .inr (8, [.int kc, .ref m_bytes, .int (nI sz_), .ref m_w, .int (nI fx), .int (nI po), .ref m_saved, .int (nI le), .ref m_line, .ref m_met, .ref m_waiting, .ref m_nextParent, .int (nI he), .ref m_kind, .ref m_number, .int (nI de), .ref m_begin, .ref m_table, .ref m_handlers, .ref m_base, .ref m_locals, .ref m_self, .ref m_found, .ref m_place, .ref m_next, .int (nI sd), .ref m_saidKind, .ref m_saidNumber, .int rk, .int rn, .int en])), (m_w, .inl (cI, 5568, .inl fw))] sz) := by
  refine Met.ofW (cc := prog_10_method_6_code) (maxL := 2) (ret := (some .int)) (by decide) rfl ?_
  intro p e s m args below meth c s₁ B hml hv
  obtain ⟨rfl, rfl, hP, hK, hD0, hT⟩ := hv
  have hx := B.exec
  have hb := B.bytes
  have hr := B.returns
  have hts0 := atoms_spec (ws := .code y_Model_parents prog_10_method_6_code 2 (some .int) :: AW) B.pre
  have hts : ∀ w ∈ AW, w.before [.ref h, .int (nI oo)].toArray s = true := fun w h => hts0 w (List.mem_cons_of_mem _ h)
  have hown : s.vm.findClass "TaleMachineModel" = some m.cls := findClass_of_methodNamed B.named
  have hlocks := B.notSynchronized
  have hD := hD0.self (sz := s.heap.size)
  generalize hAe : va_A [(h, .inr (8, [.int kc, .ref m_bytes, .int (nI sz_), .ref m_w, .int (nI fx), .int (nI po), .ref m_saved, .int (nI le), .ref m_line, .ref m_met, .ref m_waiting, .ref m_nextParent, .int (nI he), .ref m_kind, .ref m_number, .int (nI de), .ref m_begin, .ref m_table, .ref m_handlers, .ref m_base, .ref m_locals, .ref m_self, .ref m_found, .ref m_place, .ref m_next, .int (nI sd), .ref m_saidKind, .ref m_saidNumber, .int rk, .int rn, .int en])), (m_w, .inl (cI, 5568, .inl fw))] s.heap.size = A at hD ⊢
  have hA : ∀ q : Nat, s.heap.size ≤ q → A q := fun q h => by rw [← hAe]; exact Or.inr h
  have hS : va_S A s.heap s.heap [] := va_S.rf
  have hl := lv_entry ([.ref h, .int (nI oo)]) (n := 2) (Nat.le_of_ble_eq_true rfl)
  rw [lg_entry_eq]
  generalize (lg_sl ([.ref h, .int (nI oo)]) ++ List.replicate (2 - (lg_sl ([.ref h, .int (nI oo)])).length) Slot.unset).toArray = ls at hl ⊢
  have hl : lv_has ls 2 [(0, .ref h), (1, .int (nI oo))] := hl
  refine lv_aload_n hx hb d_Model_parents_0 rfl (lv_at hl 0 rfl) ?_
  refine va_get (D := D) (ci := 8) (v := .ref m_w) (C := "TaleMachineModel") (T := F_Model) (N := 31) hx hb hts in_Model hown hK hP 0 rfl rfl 3 (by decide) (hts _ k_631) (fun _ h9 => h9) rfl d_Model_parents_1 ?_
  refine lv_bipush (v := 29) hx hb d_Model_parents_4 (by decide) ?_
  refine lv_iload_n hx hb d_Model_parents_6 rfl (lv_at hl 1 rfl) ?_
  refine lv_imul hx hb d_Model_parents_7 ?_
  refine lv_topi (fun z1 hz1 => ?_)
  obtain rfl : z1 = nI (29 * oo) := hz1.trans (pk_mul 29 oo)
  refine lv_iconst (v := 1) hx hb d_Model_parents_8 (by decide) ?_
  refine lv_iadd hx hb d_Model_parents_9 ?_
  refine lv_topi (fun z2 hz2 => ?_)
  obtain rfl : z2 = nI ((29 * oo) + 1) := hz2.trans (nI_add (29 * oo) 1)
  refine ia_ld hx hb hK hP 1 0 rfl rfl (k := (29 * oo) + 1) (by omega) (by first | decide | assumption) d_Model_parents_10 ?_
  exact end_i hx hb hr hlocks hS (u := ()) (r := (fw ((29 * oo) + 1))) (at_end (hP.sub (ws' := [(h, .inr (8, [.int kc, .ref m_bytes, .int (nI sz_), .ref m_w, .int (nI fx), .int (nI po), .ref m_saved, .int (nI le), .ref m_line, .ref m_met, .ref m_waiting, .ref m_nextParent, .int (nI he), .ref m_kind, .ref m_number, .int (nI de), .ref m_begin, .ref m_table, .ref m_handlers, .ref m_base, .ref m_locals, .ref m_self, .ref m_found, .ref m_place, .ref m_next, .int (nI sd), .ref m_saidKind, .ref m_saidNumber, .int rk, .int rn, .int en])), (m_w, .inl (cI, 5568, .inl fw))]) [0, 1] rfl) (hD.sub (ws' := [(h, .inr (8, [.int kc, .ref m_bytes, .int (nI sz_), .ref m_w, .int (nI fx), .int (nI po), .ref m_saved, .int (nI le), .ref m_line, .ref m_met, .ref m_waiting, .ref m_nextParent, .int (nI he), .ref m_kind, .ref m_number, .int (nI de), .ref m_begin, .ref m_table, .ref m_handlers, .ref m_base, .ref m_locals, .ref m_self, .ref m_found, .ref m_place, .ref m_next, .int (nI sd), .ref m_saidKind, .ref m_saidNumber, .int rk, .int rn, .int en])), (m_w, .inl (cI, 5568, .inl fw))]) [0, 1] (by decide) rfl)) (rfl) (Nat.le_of_ble_eq_true rfl) (Nat.le_of_ble_eq_true rfl) d_Model_parents_11

set_option maxHeartbeats 4000000 in
set_option maxRecDepth 100000 in
theorem g_parent (l : Launch) (D : va_G) (cI cZ cJ : ClassId) (h m_bytes m_w m_saved m_line m_met m_waiting m_nextParent m_kind m_number m_begin m_table m_handlers m_base m_locals m_self m_found m_place m_next m_saidKind m_saidNumber : Nat) (kc rk rn en : Int32) (sz_ fx po le he de sd : Nat) (oo kk : Nat) (fw : Nat → Int32) (sz : Nat) (ho : oo < 32) (hk : kk < 3) : Met l y_Model_parent (.code y_Model_parent prog_10_method_7_code 3 (some .int) :: AW) ({ frames := 0, cells := 0, slots := 0, locals := 0 }) (va_Pc [.ref h, .int (nI oo), .int (nI kk)] (pre_ D [(h, .inr (8, [.int kc, .ref m_bytes, .int (nI sz_), .ref m_w, .int (nI fx), .int (nI po), .ref m_saved, .int (nI le), .ref m_line, .ref m_met, .ref m_waiting, .ref m_nextParent, .int (nI he), .ref m_kind, .ref m_number, .int (nI de), .ref m_begin, .ref m_table, .ref m_handlers, .ref m_base, .ref m_locals, .ref m_self, .ref m_found, .ref m_place, .ref m_next, .int (nI sd), .ref m_saidKind, .ref m_saidNumber, .int rk, .int rn, .int en])), (m_w, .inl (cI, 5568, .inl fw))] [(cI, .int), (cZ, .boolean), (cJ, .long)] sz)) (va_Qi (fun (r : Int32) (u : Unit) => r = fw (29 * oo + 2 + kk)) (fun _ t => post_ D (va_A [(h, .inr (8, [.int kc, .ref m_bytes, .int (nI sz_), .ref m_w, .int (nI fx), .int (nI po), .ref m_saved, .int (nI le), .ref m_line, .ref m_met, .ref m_waiting, .ref m_nextParent, .int (nI he), .ref m_kind, .ref m_number, .int (nI de), .ref m_begin, .ref m_table, .ref m_handlers, .ref m_base, .ref m_locals, .ref m_self, .ref m_found, .ref m_place, .ref m_next, .int (nI sd), .ref m_saidKind, .ref m_saidNumber, .int rk, .int rn, .int en])), (m_w, .inl (cI, 5568, .inl fw))] sz) [(h, .inr (8, [.int kc, .ref m_bytes, .int (nI sz_), .ref m_w, .int (nI fx), .int (nI po), .ref m_saved, .int (nI le), .ref m_line, .ref m_met, .ref m_waiting, .ref m_nextParent, .int (nI he), .ref m_kind, .ref m_number, .int (nI de), .ref m_begin, .ref m_table, .ref m_handlers, .ref m_base, .ref m_locals, .ref m_self, .ref m_found, .ref m_place, .ref m_next, .int (nI sd), .ref m_saidKind, .ref m_saidNumber, .int rk, .int rn, .int en])), (m_w, .inl (cI, 5568, .inl fw))] t) (va_A [(h, .inr (8, [.int kc, .ref m_bytes, .int (nI sz_), .ref m_w, .int (nI fx), .int (nI po), .ref m_saved, .int (nI le), .ref m_line, .ref m_met, .ref m_waiting, .ref m_nextParent, .int (nI he), .ref m_kind, .ref m_number, .int (nI de), .ref m_begin, .ref m_table, .ref m_handlers, .ref m_base, .ref m_locals, .ref m_self, .ref m_found, .ref m_place, .ref m_next, .int (nI sd), .ref m_saidKind, .ref m_saidNumber, .int rk, .int rn, .int en])), (m_w, .inl (cI, 5568, .inl fw))] sz)) 0 0 (va_A [(h, .inr (8, [.int kc, .ref m_bytes, .int (nI sz_), .ref m_w, .int (nI fx), .int (nI po), .ref m_saved, .int (nI le), .ref m_line, .ref m_met, .ref m_waiting, .ref m_nextParent, .int (nI he), .ref m_kind, .ref m_number, .int (nI de), .ref m_begin, .ref m_table, .ref m_handlers, .ref m_base, .ref m_locals, .ref m_self, .ref m_found, .ref m_place, .ref m_next, .int (nI sd), .ref m_saidKind, .ref m_saidNumber, .int rk, .int rn, .int en])), (m_w, .inl (cI, 5568, .inl fw))] sz) := by
  refine Met.ofW (cc := prog_10_method_7_code) (maxL := 3) (ret := (some .int)) (by decide) rfl ?_
  intro p e s m args below meth c s₁ B hml hv
  obtain ⟨rfl, rfl, hP, hK, hD0, hT⟩ := hv
  have hx := B.exec
  have hb := B.bytes
  have hr := B.returns
  have hts0 := atoms_spec (ws := .code y_Model_parent prog_10_method_7_code 3 (some .int) :: AW) B.pre
  have hts : ∀ w ∈ AW, w.before [.ref h, .int (nI oo), .int (nI kk)].toArray s = true := fun w h => hts0 w (List.mem_cons_of_mem _ h)
  have hown : s.vm.findClass "TaleMachineModel" = some m.cls := findClass_of_methodNamed B.named
  have hlocks := B.notSynchronized
  have hD := hD0.self (sz := s.heap.size)
  generalize hAe : va_A [(h, .inr (8, [.int kc, .ref m_bytes, .int (nI sz_), .ref m_w, .int (nI fx), .int (nI po), .ref m_saved, .int (nI le), .ref m_line, .ref m_met, .ref m_waiting, .ref m_nextParent, .int (nI he), .ref m_kind, .ref m_number, .int (nI de), .ref m_begin, .ref m_table, .ref m_handlers, .ref m_base, .ref m_locals, .ref m_self, .ref m_found, .ref m_place, .ref m_next, .int (nI sd), .ref m_saidKind, .ref m_saidNumber, .int rk, .int rn, .int en])), (m_w, .inl (cI, 5568, .inl fw))] s.heap.size = A at hD ⊢
  have hA : ∀ q : Nat, s.heap.size ≤ q → A q := fun q h => by rw [← hAe]; exact Or.inr h
  have hS : va_S A s.heap s.heap [] := va_S.rf
  have hl := lv_entry ([.ref h, .int (nI oo), .int (nI kk)]) (n := 3) (Nat.le_of_ble_eq_true rfl)
  rw [lg_entry_eq]
  generalize (lg_sl ([.ref h, .int (nI oo), .int (nI kk)]) ++ List.replicate (3 - (lg_sl ([.ref h, .int (nI oo), .int (nI kk)])).length) Slot.unset).toArray = ls at hl ⊢
  have hl : lv_has ls 3 [(0, .ref h), (1, .int (nI oo)), (2, .int (nI kk))] := hl
  refine lv_aload_n hx hb d_Model_parent_0 rfl (lv_at hl 0 rfl) ?_
  refine va_get (D := D) (ci := 8) (v := .ref m_w) (C := "TaleMachineModel") (T := F_Model) (N := 31) hx hb hts in_Model hown hK hP 0 rfl rfl 3 (by decide) (hts _ k_631) (fun _ h9 => h9) rfl d_Model_parent_1 ?_
  refine lv_bipush (v := 29) hx hb d_Model_parent_4 (by decide) ?_
  refine lv_iload_n hx hb d_Model_parent_6 rfl (lv_at hl 1 rfl) ?_
  refine lv_imul hx hb d_Model_parent_7 ?_
  refine lv_topi (fun z1 hz1 => ?_)
  obtain rfl : z1 = nI (29 * oo) := hz1.trans (pk_mul 29 oo)
  refine lv_iconst (v := 2) hx hb d_Model_parent_8 (by decide) ?_
  refine lv_iadd hx hb d_Model_parent_9 ?_
  refine lv_topi (fun z2 hz2 => ?_)
  obtain rfl : z2 = nI ((29 * oo) + 2) := hz2.trans (nI_add (29 * oo) 2)
  refine lv_iload_n hx hb d_Model_parent_10 rfl (lv_at hl 2 rfl) ?_
  refine lv_iadd hx hb d_Model_parent_11 ?_
  refine lv_topi (fun z3 hz3 => ?_)
  obtain rfl : z3 = nI (((29 * oo) + 2) + kk) := hz3.trans (nI_add ((29 * oo) + 2) kk)
  refine ia_ld hx hb hK hP 1 0 rfl rfl (k := ((29 * oo) + 2) + kk) (by omega) (by first | decide | assumption) d_Model_parent_12 ?_
  exact end_i hx hb hr hlocks hS (u := ()) (r := (fw (((29 * oo) + 2) + kk))) (at_end (hP.sub (ws' := [(h, .inr (8, [.int kc, .ref m_bytes, .int (nI sz_), .ref m_w, .int (nI fx), .int (nI po), .ref m_saved, .int (nI le), .ref m_line, .ref m_met, .ref m_waiting, .ref m_nextParent, .int (nI he), .ref m_kind, .ref m_number, .int (nI de), .ref m_begin, .ref m_table, .ref m_handlers, .ref m_base, .ref m_locals, .ref m_self, .ref m_found, .ref m_place, .ref m_next, .int (nI sd), .ref m_saidKind, .ref m_saidNumber, .int rk, .int rn, .int en])), (m_w, .inl (cI, 5568, .inl fw))]) [0, 1] rfl) (hD.sub (ws' := [(h, .inr (8, [.int kc, .ref m_bytes, .int (nI sz_), .ref m_w, .int (nI fx), .int (nI po), .ref m_saved, .int (nI le), .ref m_line, .ref m_met, .ref m_waiting, .ref m_nextParent, .int (nI he), .ref m_kind, .ref m_number, .int (nI de), .ref m_begin, .ref m_table, .ref m_handlers, .ref m_base, .ref m_locals, .ref m_self, .ref m_found, .ref m_place, .ref m_next, .int (nI sd), .ref m_saidKind, .ref m_saidNumber, .int rk, .int rn, .int en])), (m_w, .inl (cI, 5568, .inl fw))]) [0, 1] (by decide) rfl)) (rfl) (Nat.le_of_ble_eq_true rfl) (Nat.le_of_ble_eq_true rfl) d_Model_parent_13

set_option maxHeartbeats 4000000 in
set_option maxRecDepth 100000 in
theorem g_hasOwn (l : Launch) (D : va_G) (cI cZ cJ : ClassId) (h m_bytes m_w m_saved m_line m_met m_waiting m_nextParent m_kind m_number m_begin m_table m_handlers m_base m_locals m_self m_found m_place m_next m_saidKind m_saidNumber : Nat) (kc rk rn en : Int32) (sz_ fx po le he de sd : Nat) (oo p_ : Nat) (fw : Nat → Int32) (sz : Nat) (ho : oo < 32) (hp : p_ < 8) : Met l y_Model_hasOwn (.code y_Model_hasOwn prog_10_method_9_code 3 (some .boolean) :: AW) ({ frames := 1, cells := 0, slots := 0, locals := 22 }) (va_Pc [.ref h, .int (nI oo), .int (nI p_)] (pre_ D [(h, .inr (8, [.int kc, .ref m_bytes, .int (nI sz_), .ref m_w, .int (nI fx), .int (nI po), .ref m_saved, .int (nI le), .ref m_line, .ref m_met, .ref m_waiting, .ref m_nextParent, .int (nI he), .ref m_kind, .ref m_number, .int (nI de), .ref m_begin, .ref m_table, .ref m_handlers, .ref m_base, .ref m_locals, .ref m_self, .ref m_found, .ref m_place, .ref m_next, .int (nI sd), .ref m_saidKind, .ref m_saidNumber, .int rk, .int rn, .int en])), (m_w, .inl (cI, 5568, .inl fw))] [(cI, .int), (cZ, .boolean), (cJ, .long)] sz)) (va_Qi (fun (r : Int32) (u : Unit) => r = 0 ∨ r = 1) (fun _ t => post_ D (va_A [(h, .inr (8, [.int kc, .ref m_bytes, .int (nI sz_), .ref m_w, .int (nI fx), .int (nI po), .ref m_saved, .int (nI le), .ref m_line, .ref m_met, .ref m_waiting, .ref m_nextParent, .int (nI he), .ref m_kind, .ref m_number, .int (nI de), .ref m_begin, .ref m_table, .ref m_handlers, .ref m_base, .ref m_locals, .ref m_self, .ref m_found, .ref m_place, .ref m_next, .int (nI sd), .ref m_saidKind, .ref m_saidNumber, .int rk, .int rn, .int en])), (m_w, .inl (cI, 5568, .inl fw))] sz) [(h, .inr (8, [.int kc, .ref m_bytes, .int (nI sz_), .ref m_w, .int (nI fx), .int (nI po), .ref m_saved, .int (nI le), .ref m_line, .ref m_met, .ref m_waiting, .ref m_nextParent, .int (nI he), .ref m_kind, .ref m_number, .int (nI de), .ref m_begin, .ref m_table, .ref m_handlers, .ref m_base, .ref m_locals, .ref m_self, .ref m_found, .ref m_place, .ref m_next, .int (nI sd), .ref m_saidKind, .ref m_saidNumber, .int rk, .int rn, .int en])), (m_w, .inl (cI, 5568, .inl fw))] t) (va_A [(h, .inr (8, [.int kc, .ref m_bytes, .int (nI sz_), .ref m_w, .int (nI fx), .int (nI po), .ref m_saved, .int (nI le), .ref m_line, .ref m_met, .ref m_waiting, .ref m_nextParent, .int (nI he), .ref m_kind, .ref m_number, .int (nI de), .ref m_begin, .ref m_table, .ref m_handlers, .ref m_base, .ref m_locals, .ref m_self, .ref m_found, .ref m_place, .ref m_next, .int (nI sd), .ref m_saidKind, .ref m_saidNumber, .int rk, .int rn, .int en])), (m_w, .inl (cI, 5568, .inl fw))] sz)) 0 0 (va_A [(h, .inr (8, [.int kc, .ref m_bytes, .int (nI sz_), .ref m_w, .int (nI fx), .int (nI po), .ref m_saved, .int (nI le), .ref m_line, .ref m_met, .ref m_waiting, .ref m_nextParent, .int (nI he), .ref m_kind, .ref m_number, .int (nI de), .ref m_begin, .ref m_table, .ref m_handlers, .ref m_base, .ref m_locals, .ref m_self, .ref m_found, .ref m_place, .ref m_next, .int (nI sd), .ref m_saidKind, .ref m_saidNumber, .int rk, .int rn, .int en])), (m_w, .inl (cI, 5568, .inl fw))] sz) := by
  refine Met.ofW (cc := prog_10_method_9_code) (maxL := 3) (ret := (some .boolean)) (by decide) rfl ?_
  intro p e s m args below meth c s₁ B hml hv
  obtain ⟨rfl, rfl, hP, hK, hD0, hT⟩ := hv
  have hx := B.exec
  have hb := B.bytes
  have hr := B.returns
  have hts0 := atoms_spec (ws := .code y_Model_hasOwn prog_10_method_9_code 3 (some .boolean) :: AW) B.pre
  have hts : ∀ w ∈ AW, w.before [.ref h, .int (nI oo), .int (nI p_)].toArray s = true := fun w h => hts0 w (List.mem_cons_of_mem _ h)
  have hown : s.vm.findClass "TaleMachineModel" = some m.cls := findClass_of_methodNamed B.named
  have hlocks := B.notSynchronized
  have hD := hD0.self (sz := s.heap.size)
  generalize hAe : va_A [(h, .inr (8, [.int kc, .ref m_bytes, .int (nI sz_), .ref m_w, .int (nI fx), .int (nI po), .ref m_saved, .int (nI le), .ref m_line, .ref m_met, .ref m_waiting, .ref m_nextParent, .int (nI he), .ref m_kind, .ref m_number, .int (nI de), .ref m_begin, .ref m_table, .ref m_handlers, .ref m_base, .ref m_locals, .ref m_self, .ref m_found, .ref m_place, .ref m_next, .int (nI sd), .ref m_saidKind, .ref m_saidNumber, .int rk, .int rn, .int en])), (m_w, .inl (cI, 5568, .inl fw))] s.heap.size = A at hD ⊢
  have hA : ∀ q : Nat, s.heap.size ≤ q → A q := fun q h => by rw [← hAe]; exact Or.inr h
  have hS : va_S A s.heap s.heap [] := va_S.rf
  have hl := lv_entry ([.ref h, .int (nI oo), .int (nI p_)]) (n := 3) (Nat.le_of_ble_eq_true rfl)
  rw [lg_entry_eq]
  generalize (lg_sl ([.ref h, .int (nI oo), .int (nI p_)]) ++ List.replicate (3 - (lg_sl ([.ref h, .int (nI oo), .int (nI p_)])).length) Slot.unset).toArray = ls at hl ⊢
  have hl : lv_has ls 3 [(0, .ref h), (1, .int (nI oo)), (2, .int (nI p_))] := hl
  refine lv_aload_n hx hb d_Model_hasOwn_0 rfl (lv_at hl 0 rfl) ?_
  refine va_get (D := D) (ci := 8) (v := .ref m_w) (C := "TaleMachineModel") (T := F_Model) (N := 31) hx hb hts in_Model hown hK hP 0 rfl rfl 3 (by decide) (hts _ k_631) (fun _ h9 => h9) rfl d_Model_hasOwn_1 ?_
  refine lv_aload_n hx hb d_Model_hasOwn_4 rfl (lv_at hl 0 rfl) ?_
  refine lv_iload_n hx hb d_Model_hasOwn_5 rfl (lv_at hl 1 rfl) ?_
  refine lv_iload_n hx hb d_Model_hasOwn_6 rfl (lv_at hl 2 rfl) ?_
  refine mv_i (va_runV (C := "TaleMachineModel") (As := [.int (nI oo), .int (nI p_)]) (rest := [.ref m_w]) ⟨hx, hb, hml, hown, hts⟩ (g_placeOf l D cI cZ cJ h oo p_ _ ) (cwV 2 hts (gInV k_714 k_715 k_905 k_10 k_716) rfl rfl rfl (by decide +kernel) ⟨Nat.le_of_ble_eq_true rfl, Nat.le_of_ble_eq_true rfl⟩) (pre_V (va_recv hK hP (q := ("TaleMachineModel", F_Model, 31)) rfl (q0 := 0) rfl) (hP.sub [] rfl) (hK.sub [0, 1, 2] rfl) (hD.sub [] (by decide) rfl) hT) rfl rfl hl.1 rfl (lv_room (Nat.le_of_ble_eq_true rfl)) d_Model_hasOwn_7 ⟨Nat.le_of_ble_eq_true rfl, Nat.le_of_ble_eq_true rfl⟩) hP hD hS hA [] [0, 1] rfl rfl (by decide) (by decide) (wr := [(h, .inr (8, [.int kc, .ref m_bytes, .int (nI sz_), .ref m_w, .int (nI fx), .int (nI po), .ref m_saved, .int (nI le), .ref m_line, .ref m_met, .ref m_waiting, .ref m_nextParent, .int (nI he), .ref m_kind, .ref m_number, .int (nI de), .ref m_begin, .ref m_table, .ref m_handlers, .ref m_base, .ref m_locals, .ref m_self, .ref m_found, .ref m_place, .ref m_next, .int (nI sd), .ref m_saidKind, .ref m_saidNumber, .int rk, .int rn, .int en])), (m_w, .inl (cI, 5568, .inl fw))]) (wn := fun _ => []) (fun _ _ h9 => h9) (fun r1 _ H locs hp2 hP hD hS => ?_)
  have hP : va_P D cL [(h, .inr (8, [.int kc, .ref m_bytes, .int (nI sz_), .ref m_w, .int (nI fx), .int (nI po), .ref m_saved, .int (nI le), .ref m_line, .ref m_met, .ref m_waiting, .ref m_nextParent, .int (nI he), .ref m_kind, .ref m_number, .int (nI de), .ref m_begin, .ref m_table, .ref m_handlers, .ref m_base, .ref m_locals, .ref m_self, .ref m_found, .ref m_place, .ref m_next, .int (nI sd), .ref m_saidKind, .ref m_saidNumber, .int rk, .int rn, .int en])), (m_w, .inl (cI, 5568, .inl fw))] H := hP
  have hD : va_D A [(h, .inr (8, [.int kc, .ref m_bytes, .int (nI sz_), .ref m_w, .int (nI fx), .int (nI po), .ref m_saved, .int (nI le), .ref m_line, .ref m_met, .ref m_waiting, .ref m_nextParent, .int (nI he), .ref m_kind, .ref m_number, .int (nI de), .ref m_begin, .ref m_table, .ref m_handlers, .ref m_base, .ref m_locals, .ref m_self, .ref m_found, .ref m_place, .ref m_next, .int (nI sd), .ref m_saidKind, .ref m_saidNumber, .int rk, .int rn, .int en])), (m_w, .inl (cI, 5568, .inl fw))] := hD
  obtain rfl : r1 = nI (29 * oo + 5 + 3 * p_) := hp2
  refine ia_ld hx hb hK hP 1 0 rfl rfl (k := 29 * oo + 5 + 3 * p_) (by omega) (by first | decide | assumption) d_Model_hasOwn_10 ?_
  refine lv_iconst (v := 1) hx hb d_Model_hasOwn_11 (by decide) ?_
  refine lv_icmp_ne hx hb d_Model_hasOwn_12 (tgt := 19) (by decide) (fun hc3 => ?_) (fun hc3 => ?_)
  · refine lv_iconst (v := 0) hx hb d_Model_hasOwn_19 (by decide) ?_
    exact end_z hx hb hr hlocks hS (u := ()) (r := 0) (at_end (hP.sub (ws' := [(h, .inr (8, [.int kc, .ref m_bytes, .int (nI sz_), .ref m_w, .int (nI fx), .int (nI po), .ref m_saved, .int (nI le), .ref m_line, .ref m_met, .ref m_waiting, .ref m_nextParent, .int (nI he), .ref m_kind, .ref m_number, .int (nI de), .ref m_begin, .ref m_table, .ref m_handlers, .ref m_base, .ref m_locals, .ref m_self, .ref m_found, .ref m_place, .ref m_next, .int (nI sd), .ref m_saidKind, .ref m_saidNumber, .int rk, .int rn, .int en])), (m_w, .inl (cI, 5568, .inl fw))]) [0, 1] rfl) (hD.sub (ws' := [(h, .inr (8, [.int kc, .ref m_bytes, .int (nI sz_), .ref m_w, .int (nI fx), .int (nI po), .ref m_saved, .int (nI le), .ref m_line, .ref m_met, .ref m_waiting, .ref m_nextParent, .int (nI he), .ref m_kind, .ref m_number, .int (nI de), .ref m_begin, .ref m_table, .ref m_handlers, .ref m_base, .ref m_locals, .ref m_self, .ref m_found, .ref m_place, .ref m_next, .int (nI sd), .ref m_saidKind, .ref m_saidNumber, .int rk, .int rn, .int en])), (m_w, .inl (cI, 5568, .inl fw))]) [0, 1] (by decide) rfl)) (Or.inl rfl) (by decide) (Nat.le_of_ble_eq_true rfl) (Nat.le_of_ble_eq_true rfl) d_Model_hasOwn_20
  · refine lv_iconst (v := 1) hx hb d_Model_hasOwn_15 (by decide) ?_
    refine lv_goto hx hb d_Model_hasOwn_16 (tgt := 20) (by decide) ?_
    exact end_z hx hb hr hlocks hS (u := ()) (r := 1) (at_end (hP.sub (ws' := [(h, .inr (8, [.int kc, .ref m_bytes, .int (nI sz_), .ref m_w, .int (nI fx), .int (nI po), .ref m_saved, .int (nI le), .ref m_line, .ref m_met, .ref m_waiting, .ref m_nextParent, .int (nI he), .ref m_kind, .ref m_number, .int (nI de), .ref m_begin, .ref m_table, .ref m_handlers, .ref m_base, .ref m_locals, .ref m_self, .ref m_found, .ref m_place, .ref m_next, .int (nI sd), .ref m_saidKind, .ref m_saidNumber, .int rk, .int rn, .int en])), (m_w, .inl (cI, 5568, .inl fw))]) [0, 1] rfl) (hD.sub (ws' := [(h, .inr (8, [.int kc, .ref m_bytes, .int (nI sz_), .ref m_w, .int (nI fx), .int (nI po), .ref m_saved, .int (nI le), .ref m_line, .ref m_met, .ref m_waiting, .ref m_nextParent, .int (nI he), .ref m_kind, .ref m_number, .int (nI de), .ref m_begin, .ref m_table, .ref m_handlers, .ref m_base, .ref m_locals, .ref m_self, .ref m_found, .ref m_place, .ref m_next, .int (nI sd), .ref m_saidKind, .ref m_saidNumber, .int rk, .int rn, .int en])), (m_w, .inl (cI, 5568, .inl fw))]) [0, 1] (by decide) rfl)) (Or.inr rfl) (by decide) (Nat.le_of_ble_eq_true rfl) (Nat.le_of_ble_eq_true rfl) d_Model_hasOwn_20
