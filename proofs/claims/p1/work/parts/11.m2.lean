set_option maxHeartbeats 4000000 in
set_option maxRecDepth 100000 in
theorem c_Model_empty (l : Launch) (D : va_G) (cI cZ cJ : ClassId) (h m_bytes m_w m_saved m_line m_met m_waiting m_nextParent m_kind m_number m_begin m_table m_handlers m_base m_locals m_self m_found m_place m_next m_saidKind m_saidNumber : Nat) (sz : Nat)  : Met l y_Model_empty (.code y_Model_empty prog_10_method_11_code 3 none :: AW) ({ frames := 1, cells := 0, slots := 0, locals := 22 }) (va_Pc [.ref h, .int 0] (pre_ D [(h, .inr (8, [.int 0, .ref m_bytes, .int 0, .ref m_w, .int 0, .int 0, .ref m_saved, .int 0, .ref m_line, .ref m_met, .ref m_waiting, .ref m_nextParent, .int 0, .ref m_kind, .ref m_number, .int 0, .ref m_begin, .ref m_table, .ref m_handlers, .ref m_base, .ref m_locals, .ref m_self, .ref m_found, .ref m_place, .ref m_next, .int 0, .ref m_saidKind, .ref m_saidNumber, .int 0, .int 0, .int (-1)])), (m_w, .inl (cI, 5568, .inl (fun _ => 0)))] [(cI, .int), (cZ, .boolean), (cJ, .long)] sz)) (va_Qv (fun (u : Nat → Int32) => True) (fun u t => match u with | fw => post_ D (va_A [(h, .inr (8, [.int 0, .ref m_bytes, .int 0, .ref m_w, .int 0, .int 0, .ref m_saved, .int 0, .ref m_line, .ref m_met, .ref m_waiting, .ref m_nextParent, .int 0, .ref m_kind, .ref m_number, .int 0, .ref m_begin, .ref m_table, .ref m_handlers, .ref m_base, .ref m_locals, .ref m_self, .ref m_found, .ref m_place, .ref m_next, .int 0, .ref m_saidKind, .ref m_saidNumber, .int 0, .int 0, .int (-1)])), (m_w, .inl (cI, 5568, .inl (fun _ => 0)))] sz) [(h, .inr (8, [.int 0, .ref m_bytes, .int 0, .ref m_w, .int 0, .int 0, .ref m_saved, .int 0, .ref m_line, .ref m_met, .ref m_waiting, .ref m_nextParent, .int 0, .ref m_kind, .ref m_number, .int 0, .ref m_begin, .ref m_table, .ref m_handlers, .ref m_base, .ref m_locals, .ref m_self, .ref m_found, .ref m_place, .ref m_next, .int 0, .ref m_saidKind, .ref m_saidNumber, .int 0, .int 0, .int (-1)])), (m_w, .inl (cI, 5568, .inl fw))] t) (va_A [(h, .inr (8, [.int 0, .ref m_bytes, .int 0, .ref m_w, .int 0, .int 0, .ref m_saved, .int 0, .ref m_line, .ref m_met, .ref m_waiting, .ref m_nextParent, .int 0, .ref m_kind, .ref m_number, .int 0, .ref m_begin, .ref m_table, .ref m_handlers, .ref m_base, .ref m_locals, .ref m_self, .ref m_found, .ref m_place, .ref m_next, .int 0, .ref m_saidKind, .ref m_saidNumber, .int 0, .int 0, .int (-1)])), (m_w, .inl (cI, 5568, .inl (fun _ => 0)))] sz)) 0 0 (va_A [(h, .inr (8, [.int 0, .ref m_bytes, .int 0, .ref m_w, .int 0, .int 0, .ref m_saved, .int 0, .ref m_line, .ref m_met, .ref m_waiting, .ref m_nextParent, .int 0, .ref m_kind, .ref m_number, .int 0, .ref m_begin, .ref m_table, .ref m_handlers, .ref m_base, .ref m_locals, .ref m_self, .ref m_found, .ref m_place, .ref m_next, .int 0, .ref m_saidKind, .ref m_saidNumber, .int 0, .int 0, .int (-1)])), (m_w, .inl (cI, 5568, .inl (fun _ => 0)))] sz) := by
  refine Met.ofW (cc := prog_10_method_11_code) (maxL := 3) (ret := none) (by decide) rfl ?_
  intro p e s m args below meth c s₁ B hml hv
  obtain ⟨rfl, rfl, hP, hK, hD0, hT⟩ := hv
  have hx := B.exec
  have hb := B.bytes
  have hr := B.returns
  have hts0 := atoms_spec (ws := .code y_Model_empty prog_10_method_11_code 3 none :: AW) B.pre
  have hts : ∀ w ∈ AW, w.before [.ref h, .int 0].toArray s = true := fun w h => hts0 w (List.mem_cons_of_mem _ h)
  have hown : s.vm.findClass "TaleMachineModel" = some m.cls := findClass_of_methodNamed B.named
  have hlocks := B.notSynchronized
  have hD := hD0.self (sz := s.heap.size)
  generalize hAe : va_A [(h, .inr (8, [.int 0, .ref m_bytes, .int 0, .ref m_w, .int 0, .int 0, .ref m_saved, .int 0, .ref m_line, .ref m_met, .ref m_waiting, .ref m_nextParent, .int 0, .ref m_kind, .ref m_number, .int 0, .ref m_begin, .ref m_table, .ref m_handlers, .ref m_base, .ref m_locals, .ref m_self, .ref m_found, .ref m_place, .ref m_next, .int 0, .ref m_saidKind, .ref m_saidNumber, .int 0, .int 0, .int (-1)])), (m_w, .inl (cI, 5568, .inl (fun _ => 0)))] s.heap.size = A at hD ⊢
  have hA : ∀ q : Nat, s.heap.size ≤ q → A q := fun q h => by rw [← hAe]; exact Or.inr h
  have hS : va_S A s.heap s.heap [] := va_S.rf
  have hl := lv_entry ([.ref h, .int 0]) (n := 3) (Nat.le_of_ble_eq_true rfl)
  rw [lg_entry_eq]
  generalize (lg_sl ([.ref h, .int 0]) ++ List.replicate (3 - (lg_sl ([.ref h, .int 0])).length) Slot.unset).toArray = ls at hl ⊢
  have hl : lv_has ls 3 [(0, .ref h), (1, .int 0)] := hl
  refine lv_aload_n hx hb d_Model_empty_0 rfl (lv_at hl 0 rfl) ?_
  refine va_get (D := D) (ci := 8) (v := .ref m_w) (C := "TaleMachineModel") (T := F_Model) (N := 31) hx hb hts in_Model hown hK hP 0 rfl rfl 3 (by decide) (hts _ k_5) (fun _ h9 => h9) rfl d_Model_empty_1 ?_
  refine lv_bipush (v := 29) hx hb d_Model_empty_4 (by decide) ?_
  refine lv_iload_n hx hb d_Model_empty_6 rfl (lv_at hl 1 rfl) ?_
  refine lv_imul hx hb d_Model_empty_7 ?_
  refine lv_topi (fun z1 hz1 => ?_)
  obtain rfl : z1 = 0 := hz1.trans (by decide)
  refine lv_iconst (v := 1) hx hb d_Model_empty_8 (by decide) ?_
  refine va_iast hx hb hK hP hD hS 1 0 rfl rfl (i := 0) (x := 1) (in_c (by decide)) d_Model_empty_9 (fun H locs hP hD hS => ?_)
  have hP : va_P D cL [(h, .inr (8, [.int 0, .ref m_bytes, .int 0, .ref m_w, .int 0, .int 0, .ref m_saved, .int 0, .ref m_line, .ref m_met, .ref m_waiting, .ref m_nextParent, .int 0, .ref m_kind, .ref m_number, .int 0, .ref m_begin, .ref m_table, .ref m_handlers, .ref m_base, .ref m_locals, .ref m_self, .ref m_found, .ref m_place, .ref m_next, .int 0, .ref m_saidKind, .ref m_saidNumber, .int 0, .int 0, .int (-1)])), (m_w, .inl (cI, 5568, .inl (upd (fun _ => 0) (0 : Int32).toNatClampNeg 1)))] H := hP
  have hD : va_D A [(h, .inr (8, [.int 0, .ref m_bytes, .int 0, .ref m_w, .int 0, .int 0, .ref m_saved, .int 0, .ref m_line, .ref m_met, .ref m_waiting, .ref m_nextParent, .int 0, .ref m_kind, .ref m_number, .int 0, .ref m_begin, .ref m_table, .ref m_handlers, .ref m_base, .ref m_locals, .ref m_self, .ref m_found, .ref m_place, .ref m_next, .int 0, .ref m_saidKind, .ref m_saidNumber, .int 0, .int 0, .int (-1)])), (m_w, .inl (cI, 5568, .inl (upd (fun _ => 0) (0 : Int32).toNatClampNeg 1)))] := hD
  generalize hff2 : upd (fun _ => 0) (0 : Int32).toNatClampNeg 1 = f2 at hP hD
  refine lv_aload_n hx hb d_Model_empty_10 rfl (lv_at hl 0 rfl) ?_
  refine va_get (D := D) (ci := 8) (v := .ref m_w) (C := "TaleMachineModel") (T := F_Model) (N := 31) hx hb hts in_Model hown hK hP 0 rfl rfl 3 (by decide) (hts _ k_5) (fun _ h9 => h9) rfl d_Model_empty_11 ?_
  refine lv_bipush (v := 29) hx hb d_Model_empty_14 (by decide) ?_
  refine lv_iload_n hx hb d_Model_empty_16 rfl (lv_at hl 1 rfl) ?_
  refine lv_imul hx hb d_Model_empty_17 ?_
  refine lv_topi (fun z3 hz3 => ?_)
  obtain rfl : z3 = 0 := hz3.trans (by decide)
  refine lv_iconst (v := 1) hx hb d_Model_empty_18 (by decide) ?_
  refine lv_iadd hx hb d_Model_empty_19 ?_
  refine lv_topi (fun z4 hz4 => ?_)
  obtain rfl : z4 = 1 := hz4.trans (by decide)
  refine lv_iconst (v := 0) hx hb d_Model_empty_20 (by decide) ?_
  refine va_iast hx hb hK hP hD hS 1 0 rfl rfl (i := 1) (x := 0) (in_c (by decide)) d_Model_empty_21 (fun H locs hP hD hS => ?_)
  have hP : va_P D cL [(h, .inr (8, [.int 0, .ref m_bytes, .int 0, .ref m_w, .int 0, .int 0, .ref m_saved, .int 0, .ref m_line, .ref m_met, .ref m_waiting, .ref m_nextParent, .int 0, .ref m_kind, .ref m_number, .int 0, .ref m_begin, .ref m_table, .ref m_handlers, .ref m_base, .ref m_locals, .ref m_self, .ref m_found, .ref m_place, .ref m_next, .int 0, .ref m_saidKind, .ref m_saidNumber, .int 0, .int 0, .int (-1)])), (m_w, .inl (cI, 5568, .inl (upd f2 (1 : Int32).toNatClampNeg 0)))] H := hP
  have hD : va_D A [(h, .inr (8, [.int 0, .ref m_bytes, .int 0, .ref m_w, .int 0, .int 0, .ref m_saved, .int 0, .ref m_line, .ref m_met, .ref m_waiting, .ref m_nextParent, .int 0, .ref m_kind, .ref m_number, .int 0, .ref m_begin, .ref m_table, .ref m_handlers, .ref m_base, .ref m_locals, .ref m_self, .ref m_found, .ref m_place, .ref m_next, .int 0, .ref m_saidKind, .ref m_saidNumber, .int 0, .int 0, .int (-1)])), (m_w, .inl (cI, 5568, .inl (upd f2 (1 : Int32).toNatClampNeg 0)))] := hD
  generalize hff5 : upd f2 (1 : Int32).toNatClampNeg 0 = f5 at hP hD
  refine lv_iconst (v := 0) hx hb d_Model_empty_22 (by decide) ?_
  refine lv_istore_n (lv' := [(2, .int 0), (0, .ref h), (1, .int 0)]) hx hb d_Model_empty_23 rfl hl (by decide) rfl (fun ls hl => ?_)
  refine lv_iload_n hx hb d_Model_empty_24 rfl (lv_at hl 0 rfl) ?_
  refine lv_bipush (v := 8) hx hb d_Model_empty_25 (by decide) ?_
  refine lv_icmp_ge hx hb d_Model_empty_27 (tgt := 48) (by decide) (fun hz => absurd hz (by decide)) (fun _ => ?_)
  refine lv_aload_n hx hb d_Model_empty_30 rfl (lv_at hl 1 rfl) ?_
  refine va_get (D := D) (ci := 8) (v := .ref m_w) (C := "TaleMachineModel") (T := F_Model) (N := 31) hx hb hts in_Model hown hK hP 0 rfl rfl 3 (by decide) (hts _ k_5) (fun _ h9 => h9) rfl d_Model_empty_31 ?_
  refine lv_aload_n hx hb d_Model_empty_34 rfl (lv_at hl 1 rfl) ?_
  refine lv_iload_n hx hb d_Model_empty_35 rfl (lv_at hl 2 rfl) ?_
  refine lv_iload_n hx hb d_Model_empty_36 rfl (lv_at hl 0 rfl) ?_
  refine mv_i (va_runV (C := "TaleMachineModel") (As := [.int 0, .int 0]) (rest := [.ref m_w]) ⟨hx, hb, hml, hown, hts⟩ (c_Model_placeOf l D cI cZ cJ h 0 0 _ ) (cwV 2 hts (gInV k_11 k_12 k_13 k_4 k_10) rfl rfl rfl (by decide +kernel) ⟨Nat.le_of_ble_eq_true rfl, Nat.le_of_ble_eq_true rfl⟩) (pre_V (va_recv hK hP (q := ("TaleMachineModel", F_Model, 31)) rfl (q0 := 0) rfl) (hP.sub [] rfl) (hK.sub [0, 1, 2] rfl) (hD.sub [] (by decide) rfl) hT) rfl rfl hl.1 rfl (lv_room (Nat.le_of_ble_eq_true rfl)) d_Model_empty_37 ⟨Nat.le_of_ble_eq_true rfl, Nat.le_of_ble_eq_true rfl⟩) hP hD hS hA [] [0, 1] rfl rfl (by decide) (by decide) (wr := [(h, .inr (8, [.int 0, .ref m_bytes, .int 0, .ref m_w, .int 0, .int 0, .ref m_saved, .int 0, .ref m_line, .ref m_met, .ref m_waiting, .ref m_nextParent, .int 0, .ref m_kind, .ref m_number, .int 0, .ref m_begin, .ref m_table, .ref m_handlers, .ref m_base, .ref m_locals, .ref m_self, .ref m_found, .ref m_place, .ref m_next, .int 0, .ref m_saidKind, .ref m_saidNumber, .int 0, .int 0, .int (-1)])), (m_w, .inl (cI, 5568, .inl f5))]) (wn := fun _ => []) (fun _ _ h9 => h9) (fun r6 _ H locs hp7 hP hD hS => ?_)
  have hP : va_P D cL [(h, .inr (8, [.int 0, .ref m_bytes, .int 0, .ref m_w, .int 0, .int 0, .ref m_saved, .int 0, .ref m_line, .ref m_met, .ref m_waiting, .ref m_nextParent, .int 0, .ref m_kind, .ref m_number, .int 0, .ref m_begin, .ref m_table, .ref m_handlers, .ref m_base, .ref m_locals, .ref m_self, .ref m_found, .ref m_place, .ref m_next, .int 0, .ref m_saidKind, .ref m_saidNumber, .int 0, .int 0, .int (-1)])), (m_w, .inl (cI, 5568, .inl f5))] H := hP
  have hD : va_D A [(h, .inr (8, [.int 0, .ref m_bytes, .int 0, .ref m_w, .int 0, .int 0, .ref m_saved, .int 0, .ref m_line, .ref m_met, .ref m_waiting, .ref m_nextParent, .int 0, .ref m_kind, .ref m_number, .int 0, .ref m_begin, .ref m_table, .ref m_handlers, .ref m_base, .ref m_locals, .ref m_self, .ref m_found, .ref m_place, .ref m_next, .int 0, .ref m_saidKind, .ref m_saidNumber, .int 0, .int 0, .int (-1)])), (m_w, .inl (cI, 5568, .inl f5))] := hD
  obtain rfl : r6 = 5 := hp7.trans (by decide)
  refine lv_iconst (v := 0) hx hb d_Model_empty_40 (by decide) ?_
  refine va_iast hx hb hK hP hD hS 1 0 rfl rfl (i := 5) (x := 0) (in_c (by decide)) d_Model_empty_41 (fun H locs hP hD hS => ?_)
  have hP : va_P D cL [(h, .inr (8, [.int 0, .ref m_bytes, .int 0, .ref m_w, .int 0, .int 0, .ref m_saved, .int 0, .ref m_line, .ref m_met, .ref m_waiting, .ref m_nextParent, .int 0, .ref m_kind, .ref m_number, .int 0, .ref m_begin, .ref m_table, .ref m_handlers, .ref m_base, .ref m_locals, .ref m_self, .ref m_found, .ref m_place, .ref m_next, .int 0, .ref m_saidKind, .ref m_saidNumber, .int 0, .int 0, .int (-1)])), (m_w, .inl (cI, 5568, .inl (upd f5 (5 : Int32).toNatClampNeg 0)))] H := hP
  have hD : va_D A [(h, .inr (8, [.int 0, .ref m_bytes, .int 0, .ref m_w, .int 0, .int 0, .ref m_saved, .int 0, .ref m_line, .ref m_met, .ref m_waiting, .ref m_nextParent, .int 0, .ref m_kind, .ref m_number, .int 0, .ref m_begin, .ref m_table, .ref m_handlers, .ref m_base, .ref m_locals, .ref m_self, .ref m_found, .ref m_place, .ref m_next, .int 0, .ref m_saidKind, .ref m_saidNumber, .int 0, .int 0, .int (-1)])), (m_w, .inl (cI, 5568, .inl (upd f5 (5 : Int32).toNatClampNeg 0)))] := hD
  generalize hff8 : upd f5 (5 : Int32).toNatClampNeg 0 = f8 at hP hD
  refine lv_iinc (v := 1) (lv' := [(2, .int 1), (0, .ref h), (1, .int 0)]) hx hb d_Model_empty_42 hl (k := 0) rfl (by decide) (by decide) rfl (fun ls hl => ?_)
  refine lv_goto hx hb d_Model_empty_45 (tgt := 24) (by decide) ?_
  refine lv_iload_n hx hb d_Model_empty_24 rfl (lv_at hl 0 rfl) ?_
  refine lv_bipush (v := 8) hx hb d_Model_empty_25 (by decide) ?_
  refine lv_icmp_ge hx hb d_Model_empty_27 (tgt := 48) (by decide) (fun hz => absurd hz (by decide)) (fun _ => ?_)
  refine lv_aload_n hx hb d_Model_empty_30 rfl (lv_at hl 1 rfl) ?_
  refine va_get (D := D) (ci := 8) (v := .ref m_w) (C := "TaleMachineModel") (T := F_Model) (N := 31) hx hb hts in_Model hown hK hP 0 rfl rfl 3 (by decide) (hts _ k_5) (fun _ h9 => h9) rfl d_Model_empty_31 ?_
  refine lv_aload_n hx hb d_Model_empty_34 rfl (lv_at hl 1 rfl) ?_
  refine lv_iload_n hx hb d_Model_empty_35 rfl (lv_at hl 2 rfl) ?_
  refine lv_iload_n hx hb d_Model_empty_36 rfl (lv_at hl 0 rfl) ?_
  refine mv_i (va_runV (C := "TaleMachineModel") (As := [.int 0, .int 1]) (rest := [.ref m_w]) ⟨hx, hb, hml, hown, hts⟩ (c_Model_placeOf l D cI cZ cJ h 0 1 _ ) (cwV 2 hts (gInV k_11 k_12 k_13 k_4 k_10) rfl rfl rfl (by decide +kernel) ⟨Nat.le_of_ble_eq_true rfl, Nat.le_of_ble_eq_true rfl⟩) (pre_V (va_recv hK hP (q := ("TaleMachineModel", F_Model, 31)) rfl (q0 := 0) rfl) (hP.sub [] rfl) (hK.sub [0, 1, 2] rfl) (hD.sub [] (by decide) rfl) hT) rfl rfl hl.1 rfl (lv_room (Nat.le_of_ble_eq_true rfl)) d_Model_empty_37 ⟨Nat.le_of_ble_eq_true rfl, Nat.le_of_ble_eq_true rfl⟩) hP hD hS hA [] [0, 1] rfl rfl (by decide) (by decide) (wr := [(h, .inr (8, [.int 0, .ref m_bytes, .int 0, .ref m_w, .int 0, .int 0, .ref m_saved, .int 0, .ref m_line, .ref m_met, .ref m_waiting, .ref m_nextParent, .int 0, .ref m_kind, .ref m_number, .int 0, .ref m_begin, .ref m_table, .ref m_handlers, .ref m_base, .ref m_locals, .ref m_self, .ref m_found, .ref m_place, .ref m_next, .int 0, .ref m_saidKind, .ref m_saidNumber, .int 0, .int 0, .int (-1)])), (m_w, .inl (cI, 5568, .inl f8))]) (wn := fun _ => []) (fun _ _ h9 => h9) (fun r9 _ H locs hp10 hP hD hS => ?_)
  have hP : va_P D cL [(h, .inr (8, [.int 0, .ref m_bytes, .int 0, .ref m_w, .int 0, .int 0, .ref m_saved, .int 0, .ref m_line, .ref m_met, .ref m_waiting, .ref m_nextParent, .int 0, .ref m_kind, .ref m_number, .int 0, .ref m_begin, .ref m_table, .ref m_handlers, .ref m_base, .ref m_locals, .ref m_self, .ref m_found, .ref m_place, .ref m_next, .int 0, .ref m_saidKind, .ref m_saidNumber, .int 0, .int 0, .int (-1)])), (m_w, .inl (cI, 5568, .inl f8))] H := hP
  have hD : va_D A [(h, .inr (8, [.int 0, .ref m_bytes, .int 0, .ref m_w, .int 0, .int 0, .ref m_saved, .int 0, .ref m_line, .ref m_met, .ref m_waiting, .ref m_nextParent, .int 0, .ref m_kind, .ref m_number, .int 0, .ref m_begin, .ref m_table, .ref m_handlers, .ref m_base, .ref m_locals, .ref m_self, .ref m_found, .ref m_place, .ref m_next, .int 0, .ref m_saidKind, .ref m_saidNumber, .int 0, .int 0, .int (-1)])), (m_w, .inl (cI, 5568, .inl f8))] := hD
  obtain rfl : r9 = 8 := hp10.trans (by decide)
  refine lv_iconst (v := 0) hx hb d_Model_empty_40 (by decide) ?_
  refine va_iast hx hb hK hP hD hS 1 0 rfl rfl (i := 8) (x := 0) (in_c (by decide)) d_Model_empty_41 (fun H locs hP hD hS => ?_)
  have hP : va_P D cL [(h, .inr (8, [.int 0, .ref m_bytes, .int 0, .ref m_w, .int 0, .int 0, .ref m_saved, .int 0, .ref m_line, .ref m_met, .ref m_waiting, .ref m_nextParent, .int 0, .ref m_kind, .ref m_number, .int 0, .ref m_begin, .ref m_table, .ref m_handlers, .ref m_base, .ref m_locals, .ref m_self, .ref m_found, .ref m_place, .ref m_next, .int 0, .ref m_saidKind, .ref m_saidNumber, .int 0, .int 0, .int (-1)])), (m_w, .inl (cI, 5568, .inl (upd f8 (8 : Int32).toNatClampNeg 0)))] H := hP
  have hD : va_D A [(h, .inr (8, [.int 0, .ref m_bytes, .int 0, .ref m_w, .int 0, .int 0, .ref m_saved, .int 0, .ref m_line, .ref m_met, .ref m_waiting, .ref m_nextParent, .int 0, .ref m_kind, .ref m_number, .int 0, .ref m_begin, .ref m_table, .ref m_handlers, .ref m_base, .ref m_locals, .ref m_self, .ref m_found, .ref m_place, .ref m_next, .int 0, .ref m_saidKind, .ref m_saidNumber, .int 0, .int 0, .int (-1)])), (m_w, .inl (cI, 5568, .inl (upd f8 (8 : Int32).toNatClampNeg 0)))] := hD
  generalize hff11 : upd f8 (8 : Int32).toNatClampNeg 0 = f11 at hP hD
  refine lv_iinc (v := 2) (lv' := [(2, .int 2), (0, .ref h), (1, .int 0)]) hx hb d_Model_empty_42 hl (k := 0) rfl (by decide) (by decide) rfl (fun ls hl => ?_)
  refine lv_goto hx hb d_Model_empty_45 (tgt := 24) (by decide) ?_
  refine lv_iload_n hx hb d_Model_empty_24 rfl (lv_at hl 0 rfl) ?_
  refine lv_bipush (v := 8) hx hb d_Model_empty_25 (by decide) ?_
  refine lv_icmp_ge hx hb d_Model_empty_27 (tgt := 48) (by decide) (fun hz => absurd hz (by decide)) (fun _ => ?_)
  refine lv_aload_n hx hb d_Model_empty_30 rfl (lv_at hl 1 rfl) ?_
  refine va_get (D := D) (ci := 8) (v := .ref m_w) (C := "TaleMachineModel") (T := F_Model) (N := 31) hx hb hts in_Model hown hK hP 0 rfl rfl 3 (by decide) (hts _ k_5) (fun _ h9 => h9) rfl d_Model_empty_31 ?_
  refine lv_aload_n hx hb d_Model_empty_34 rfl (lv_at hl 1 rfl) ?_
  refine lv_iload_n hx hb d_Model_empty_35 rfl (lv_at hl 2 rfl) ?_
  refine lv_iload_n hx hb d_Model_empty_36 rfl (lv_at hl 0 rfl) ?_
  refine mv_i (va_runV (C := "TaleMachineModel") (As := [.int 0, .int 2]) (rest := [.ref m_w]) ⟨hx, hb, hml, hown, hts⟩ (c_Model_placeOf l D cI cZ cJ h 0 2 _ ) (cwV 2 hts (gInV k_11 k_12 k_13 k_4 k_10) rfl rfl rfl (by decide +kernel) ⟨Nat.le_of_ble_eq_true rfl, Nat.le_of_ble_eq_true rfl⟩) (pre_V (va_recv hK hP (q := ("TaleMachineModel", F_Model, 31)) rfl (q0 := 0) rfl) (hP.sub [] rfl) (hK.sub [0, 1, 2] rfl) (hD.sub [] (by decide) rfl) hT) rfl rfl hl.1 rfl (lv_room (Nat.le_of_ble_eq_true rfl)) d_Model_empty_37 ⟨Nat.le_of_ble_eq_true rfl, Nat.le_of_ble_eq_true rfl⟩) hP hD hS hA [] [0, 1] rfl rfl (by decide) (by decide) (wr := [(h, .inr (8, [.int 0, .ref m_bytes, .int 0, .ref m_w, .int 0, .int 0, .ref m_saved, .int 0, .ref m_line, .ref m_met, .ref m_waiting, .ref m_nextParent, .int 0, .ref m_kind, .ref m_number, .int 0, .ref m_begin, .ref m_table, .ref m_handlers, .ref m_base, .ref m_locals, .ref m_self, .ref m_found, .ref m_place, .ref m_next, .int 0, .ref m_saidKind, .ref m_saidNumber, .int 0, .int 0, .int (-1)])), (m_w, .inl (cI, 5568, .inl f11))]) (wn := fun _ => []) (fun _ _ h9 => h9) (fun r12 _ H locs hp13 hP hD hS => ?_)
  have hP : va_P D cL [(h, .inr (8, [.int 0, .ref m_bytes, .int 0, .ref m_w, .int 0, .int 0, .ref m_saved, .int 0, .ref m_line, .ref m_met, .ref m_waiting, .ref m_nextParent, .int 0, .ref m_kind, .ref m_number, .int 0, .ref m_begin, .ref m_table, .ref m_handlers, .ref m_base, .ref m_locals, .ref m_self, .ref m_found, .ref m_place, .ref m_next, .int 0, .ref m_saidKind, .ref m_saidNumber, .int 0, .int 0, .int (-1)])), (m_w, .inl (cI, 5568, .inl f11))] H := hP
  have hD : va_D A [(h, .inr (8, [.int 0, .ref m_bytes, .int 0, .ref m_w, .int 0, .int 0, .ref m_saved, .int 0, .ref m_line, .ref m_met, .ref m_waiting, .ref m_nextParent, .int 0, .ref m_kind, .ref m_number, .int 0, .ref m_begin, .ref m_table, .ref m_handlers, .ref m_base, .ref m_locals, .ref m_self, .ref m_found, .ref m_place, .ref m_next, .int 0, .ref m_saidKind, .ref m_saidNumber, .int 0, .int 0, .int (-1)])), (m_w, .inl (cI, 5568, .inl f11))] := hD
  obtain rfl : r12 = 11 := hp13.trans (by decide)
  refine lv_iconst (v := 0) hx hb d_Model_empty_40 (by decide) ?_
  refine va_iast hx hb hK hP hD hS 1 0 rfl rfl (i := 11) (x := 0) (in_c (by decide)) d_Model_empty_41 (fun H locs hP hD hS => ?_)
  have hP : va_P D cL [(h, .inr (8, [.int 0, .ref m_bytes, .int 0, .ref m_w, .int 0, .int 0, .ref m_saved, .int 0, .ref m_line, .ref m_met, .ref m_waiting, .ref m_nextParent, .int 0, .ref m_kind, .ref m_number, .int 0, .ref m_begin, .ref m_table, .ref m_handlers, .ref m_base, .ref m_locals, .ref m_self, .ref m_found, .ref m_place, .ref m_next, .int 0, .ref m_saidKind, .ref m_saidNumber, .int 0, .int 0, .int (-1)])), (m_w, .inl (cI, 5568, .inl (upd f11 (11 : Int32).toNatClampNeg 0)))] H := hP
  have hD : va_D A [(h, .inr (8, [.int 0, .ref m_bytes, .int 0, .ref m_w, .int 0, .int 0, .ref m_saved, .int 0, .ref m_line, .ref m_met, .ref m_waiting, .ref m_nextParent, .int 0, .ref m_kind, .ref m_number, .int 0, .ref m_begin, .ref m_table, .ref m_handlers, .ref m_base, .ref m_locals, .ref m_self, .ref m_found, .ref m_place, .ref m_next, .int 0, .ref m_saidKind, .ref m_saidNumber, .int 0, .int 0, .int (-1)])), (m_w, .inl (cI, 5568, .inl (upd f11 (11 : Int32).toNatClampNeg 0)))] := hD
  generalize hff14 : upd f11 (11 : Int32).toNatClampNeg 0 = f14 at hP hD
  refine lv_iinc (v := 3) (lv' := [(2, .int 3), (0, .ref h), (1, .int 0)]) hx hb d_Model_empty_42 hl (k := 0) rfl (by decide) (by decide) rfl (fun ls hl => ?_)
  refine lv_goto hx hb d_Model_empty_45 (tgt := 24) (by decide) ?_
  refine lv_iload_n hx hb d_Model_empty_24 rfl (lv_at hl 0 rfl) ?_
  refine lv_bipush (v := 8) hx hb d_Model_empty_25 (by decide) ?_
  refine lv_icmp_ge hx hb d_Model_empty_27 (tgt := 48) (by decide) (fun hz => absurd hz (by decide)) (fun _ => ?_)
  refine lv_aload_n hx hb d_Model_empty_30 rfl (lv_at hl 1 rfl) ?_
  refine va_get (D := D) (ci := 8) (v := .ref m_w) (C := "TaleMachineModel") (T := F_Model) (N := 31) hx hb hts in_Model hown hK hP 0 rfl rfl 3 (by decide) (hts _ k_5) (fun _ h9 => h9) rfl d_Model_empty_31 ?_
  refine lv_aload_n hx hb d_Model_empty_34 rfl (lv_at hl 1 rfl) ?_
  refine lv_iload_n hx hb d_Model_empty_35 rfl (lv_at hl 2 rfl) ?_
  refine lv_iload_n hx hb d_Model_empty_36 rfl (lv_at hl 0 rfl) ?_
  refine mv_i (va_runV (C := "TaleMachineModel") (As := [.int 0, .int 3]) (rest := [.ref m_w]) ⟨hx, hb, hml, hown, hts⟩ (c_Model_placeOf l D cI cZ cJ h 0 3 _ ) (cwV 2 hts (gInV k_11 k_12 k_13 k_4 k_10) rfl rfl rfl (by decide +kernel) ⟨Nat.le_of_ble_eq_true rfl, Nat.le_of_ble_eq_true rfl⟩) (pre_V (va_recv hK hP (q := ("TaleMachineModel", F_Model, 31)) rfl (q0 := 0) rfl) (hP.sub [] rfl) (hK.sub [0, 1, 2] rfl) (hD.sub [] (by decide) rfl) hT) rfl rfl hl.1 rfl (lv_room (Nat.le_of_ble_eq_true rfl)) d_Model_empty_37 ⟨Nat.le_of_ble_eq_true rfl, Nat.le_of_ble_eq_true rfl⟩) hP hD hS hA [] [0, 1] rfl rfl (by decide) (by decide) (wr := [(h, .inr (8, [.int 0, .ref m_bytes, .int 0, .ref m_w, .int 0, .int 0, .ref m_saved, .int 0, .ref m_line, .ref m_met, .ref m_waiting, .ref m_nextParent, .int 0, .ref m_kind, .ref m_number, .int 0, .ref m_begin, .ref m_table, .ref m_handlers, .ref m_base, .ref m_locals, .ref m_self, .ref m_found, .ref m_place, .ref m_next, .int 0, .ref m_saidKind, .ref m_saidNumber, .int 0, .int 0, .int (-1)])), (m_w, .inl (cI, 5568, .inl f14))]) (wn := fun _ => []) (fun _ _ h9 => h9) (fun r15 _ H locs hp16 hP hD hS => ?_)
  have hP : va_P D cL [(h, .inr (8, [.int 0, .ref m_bytes, .int 0, .ref m_w, .int 0, .int 0, .ref m_saved, .int 0, .ref m_line, .ref m_met, .ref m_waiting, .ref m_nextParent, .int 0, .ref m_kind, .ref m_number, .int 0, .ref m_begin, .ref m_table, .ref m_handlers, .ref m_base, .ref m_locals, .ref m_self, .ref m_found, .ref m_place, .ref m_next, .int 0, .ref m_saidKind, .ref m_saidNumber, .int 0, .int 0, .int (-1)])), (m_w, .inl (cI, 5568, .inl f14))] H := hP
  have hD : va_D A [(h, .inr (8, [.int 0, .ref m_bytes, .int 0, .ref m_w, .int 0, .int 0, .ref m_saved, .int 0, .ref m_line, .ref m_met, .ref m_waiting, .ref m_nextParent, .int 0, .ref m_kind, .ref m_number, .int 0, .ref m_begin, .ref m_table, .ref m_handlers, .ref m_base, .ref m_locals, .ref m_self, .ref m_found, .ref m_place, .ref m_next, .int 0, .ref m_saidKind, .ref m_saidNumber, .int 0, .int 0, .int (-1)])), (m_w, .inl (cI, 5568, .inl f14))] := hD
  obtain rfl : r15 = 14 := hp16.trans (by decide)
  refine lv_iconst (v := 0) hx hb d_Model_empty_40 (by decide) ?_
  refine va_iast hx hb hK hP hD hS 1 0 rfl rfl (i := 14) (x := 0) (in_c (by decide)) d_Model_empty_41 (fun H locs hP hD hS => ?_)
  have hP : va_P D cL [(h, .inr (8, [.int 0, .ref m_bytes, .int 0, .ref m_w, .int 0, .int 0, .ref m_saved, .int 0, .ref m_line, .ref m_met, .ref m_waiting, .ref m_nextParent, .int 0, .ref m_kind, .ref m_number, .int 0, .ref m_begin, .ref m_table, .ref m_handlers, .ref m_base, .ref m_locals, .ref m_self, .ref m_found, .ref m_place, .ref m_next, .int 0, .ref m_saidKind, .ref m_saidNumber, .int 0, .int 0, .int (-1)])), (m_w, .inl (cI, 5568, .inl (upd f14 (14 : Int32).toNatClampNeg 0)))] H := hP
  have hD : va_D A [(h, .inr (8, [.int 0, .ref m_bytes, .int 0, .ref m_w, .int 0, .int 0, .ref m_saved, .int 0, .ref m_line, .ref m_met, .ref m_waiting, .ref m_nextParent, .int 0, .ref m_kind, .ref m_number, .int 0, .ref m_begin, .ref m_table, .ref m_handlers, .ref m_base, .ref m_locals, .ref m_self, .ref m_found, .ref m_place, .ref m_next, .int 0, .ref m_saidKind, .ref m_saidNumber, .int 0, .int 0, .int (-1)])), (m_w, .inl (cI, 5568, .inl (upd f14 (14 : Int32).toNatClampNeg 0)))] := hD
  generalize hff17 : upd f14 (14 : Int32).toNatClampNeg 0 = f17 at hP hD
  refine lv_iinc (v := 4) (lv' := [(2, .int 4), (0, .ref h), (1, .int 0)]) hx hb d_Model_empty_42 hl (k := 0) rfl (by decide) (by decide) rfl (fun ls hl => ?_)
  refine lv_goto hx hb d_Model_empty_45 (tgt := 24) (by decide) ?_
  refine lv_iload_n hx hb d_Model_empty_24 rfl (lv_at hl 0 rfl) ?_
  refine lv_bipush (v := 8) hx hb d_Model_empty_25 (by decide) ?_
  refine lv_icmp_ge hx hb d_Model_empty_27 (tgt := 48) (by decide) (fun hz => absurd hz (by decide)) (fun _ => ?_)
  refine lv_aload_n hx hb d_Model_empty_30 rfl (lv_at hl 1 rfl) ?_
  refine va_get (D := D) (ci := 8) (v := .ref m_w) (C := "TaleMachineModel") (T := F_Model) (N := 31) hx hb hts in_Model hown hK hP 0 rfl rfl 3 (by decide) (hts _ k_5) (fun _ h9 => h9) rfl d_Model_empty_31 ?_
  refine lv_aload_n hx hb d_Model_empty_34 rfl (lv_at hl 1 rfl) ?_
  refine lv_iload_n hx hb d_Model_empty_35 rfl (lv_at hl 2 rfl) ?_
  refine lv_iload_n hx hb d_Model_empty_36 rfl (lv_at hl 0 rfl) ?_
  refine mv_i (va_runV (C := "TaleMachineModel") (As := [.int 0, .int 4]) (rest := [.ref m_w]) ⟨hx, hb, hml, hown, hts⟩ (c_Model_placeOf l D cI cZ cJ h 0 4 _ ) (cwV 2 hts (gInV k_11 k_12 k_13 k_4 k_10) rfl rfl rfl (by decide +kernel) ⟨Nat.le_of_ble_eq_true rfl, Nat.le_of_ble_eq_true rfl⟩) (pre_V (va_recv hK hP (q := ("TaleMachineModel", F_Model, 31)) rfl (q0 := 0) rfl) (hP.sub [] rfl) (hK.sub [0, 1, 2] rfl) (hD.sub [] (by decide) rfl) hT) rfl rfl hl.1 rfl (lv_room (Nat.le_of_ble_eq_true rfl)) d_Model_empty_37 ⟨Nat.le_of_ble_eq_true rfl, Nat.le_of_ble_eq_true rfl⟩) hP hD hS hA [] [0, 1] rfl rfl (by decide) (by decide) (wr := [(h, .inr (8, [.int 0, .ref m_bytes, .int 0, .ref m_w, .int 0, .int 0, .ref m_saved, .int 0, .ref m_line, .ref m_met, .ref m_waiting, .ref m_nextParent, .int 0, .ref m_kind, .ref m_number, .int 0, .ref m_begin, .ref m_table, .ref m_handlers, .ref m_base, .ref m_locals, .ref m_self, .ref m_found, .ref m_place, .ref m_next, .int 0, .ref m_saidKind, .ref m_saidNumber, .int 0, .int 0, .int (-1)])), (m_w, .inl (cI, 5568, .inl f17))]) (wn := fun _ => []) (fun _ _ h9 => h9) (fun r18 _ H locs hp19 hP hD hS => ?_)
  have hP : va_P D cL [(h, .inr (8, [.int 0, .ref m_bytes, .int 0, .ref m_w, .int 0, .int 0, .ref m_saved, .int 0, .ref m_line, .ref m_met, .ref m_waiting, .ref m_nextParent, .int 0, .ref m_kind, .ref m_number, .int 0, .ref m_begin, .ref m_table, .ref m_handlers, .ref m_base, .ref m_locals, .ref m_self, .ref m_found, .ref m_place, .ref m_next, .int 0, .ref m_saidKind, .ref m_saidNumber, .int 0, .int 0, .int (-1)])), (m_w, .inl (cI, 5568, .inl f17))] H := hP
  have hD : va_D A [(h, .inr (8, [.int 0, .ref m_bytes, .int 0, .ref m_w, .int 0, .int 0, .ref m_saved, .int 0, .ref m_line, .ref m_met, .ref m_waiting, .ref m_nextParent, .int 0, .ref m_kind, .ref m_number, .int 0, .ref m_begin, .ref m_table, .ref m_handlers, .ref m_base, .ref m_locals, .ref m_self, .ref m_found, .ref m_place, .ref m_next, .int 0, .ref m_saidKind, .ref m_saidNumber, .int 0, .int 0, .int (-1)])), (m_w, .inl (cI, 5568, .inl f17))] := hD
  obtain rfl : r18 = 17 := hp19.trans (by decide)
  refine lv_iconst (v := 0) hx hb d_Model_empty_40 (by decide) ?_
  refine va_iast hx hb hK hP hD hS 1 0 rfl rfl (i := 17) (x := 0) (in_c (by decide)) d_Model_empty_41 (fun H locs hP hD hS => ?_)
  have hP : va_P D cL [(h, .inr (8, [.int 0, .ref m_bytes, .int 0, .ref m_w, .int 0, .int 0, .ref m_saved, .int 0, .ref m_line, .ref m_met, .ref m_waiting, .ref m_nextParent, .int 0, .ref m_kind, .ref m_number, .int 0, .ref m_begin, .ref m_table, .ref m_handlers, .ref m_base, .ref m_locals, .ref m_self, .ref m_found, .ref m_place, .ref m_next, .int 0, .ref m_saidKind, .ref m_saidNumber, .int 0, .int 0, .int (-1)])), (m_w, .inl (cI, 5568, .inl (upd f17 (17 : Int32).toNatClampNeg 0)))] H := hP
  have hD : va_D A [(h, .inr (8, [.int 0, .ref m_bytes, .int 0, .ref m_w, .int 0, .int 0, .ref m_saved, .int 0, .ref m_line, .ref m_met, .ref m_waiting, .ref m_nextParent, .int 0, .ref m_kind, .ref m_number, .int 0, .ref m_begin, .ref m_table, .ref m_handlers, .ref m_base, .ref m_locals, .ref m_self, .ref m_found, .ref m_place, .ref m_next, .int 0, .ref m_saidKind, .ref m_saidNumber, .int 0, .int 0, .int (-1)])), (m_w, .inl (cI, 5568, .inl (upd f17 (17 : Int32).toNatClampNeg 0)))] := hD
  generalize hff20 : upd f17 (17 : Int32).toNatClampNeg 0 = f20 at hP hD
  refine lv_iinc (v := 5) (lv' := [(2, .int 5), (0, .ref h), (1, .int 0)]) hx hb d_Model_empty_42 hl (k := 0) rfl (by decide) (by decide) rfl (fun ls hl => ?_)
  refine lv_goto hx hb d_Model_empty_45 (tgt := 24) (by decide) ?_
  refine lv_iload_n hx hb d_Model_empty_24 rfl (lv_at hl 0 rfl) ?_
  refine lv_bipush (v := 8) hx hb d_Model_empty_25 (by decide) ?_
  refine lv_icmp_ge hx hb d_Model_empty_27 (tgt := 48) (by decide) (fun hz => absurd hz (by decide)) (fun _ => ?_)
  refine lv_aload_n hx hb d_Model_empty_30 rfl (lv_at hl 1 rfl) ?_
  refine va_get (D := D) (ci := 8) (v := .ref m_w) (C := "TaleMachineModel") (T := F_Model) (N := 31) hx hb hts in_Model hown hK hP 0 rfl rfl 3 (by decide) (hts _ k_5) (fun _ h9 => h9) rfl d_Model_empty_31 ?_
  refine lv_aload_n hx hb d_Model_empty_34 rfl (lv_at hl 1 rfl) ?_
  refine lv_iload_n hx hb d_Model_empty_35 rfl (lv_at hl 2 rfl) ?_
  refine lv_iload_n hx hb d_Model_empty_36 rfl (lv_at hl 0 rfl) ?_
  refine mv_i (va_runV (C := "TaleMachineModel") (As := [.int 0, .int 5]) (rest := [.ref m_w]) ⟨hx, hb, hml, hown, hts⟩ (c_Model_placeOf l D cI cZ cJ h 0 5 _ ) (cwV 2 hts (gInV k_11 k_12 k_13 k_4 k_10) rfl rfl rfl (by decide +kernel) ⟨Nat.le_of_ble_eq_true rfl, Nat.le_of_ble_eq_true rfl⟩) (pre_V (va_recv hK hP (q := ("TaleMachineModel", F_Model, 31)) rfl (q0 := 0) rfl) (hP.sub [] rfl) (hK.sub [0, 1, 2] rfl) (hD.sub [] (by decide) rfl) hT) rfl rfl hl.1 rfl (lv_room (Nat.le_of_ble_eq_true rfl)) d_Model_empty_37 ⟨Nat.le_of_ble_eq_true rfl, Nat.le_of_ble_eq_true rfl⟩) hP hD hS hA [] [0, 1] rfl rfl (by decide) (by decide) (wr := [(h, .inr (8, [.int 0, .ref m_bytes, .int 0, .ref m_w, .int 0, .int 0, .ref m_saved, .int 0, .ref m_line, .ref m_met, .ref m_waiting, .ref m_nextParent, .int 0, .ref m_kind, .ref m_number, .int 0, .ref m_begin, .ref m_table, .ref m_handlers, .ref m_base, .ref m_locals, .ref m_self, .ref m_found, .ref m_place, .ref m_next, .int 0, .ref m_saidKind, .ref m_saidNumber, .int 0, .int 0, .int (-1)])), (m_w, .inl (cI, 5568, .inl f20))]) (wn := fun _ => []) (fun _ _ h9 => h9) (fun r21 _ H locs hp22 hP hD hS => ?_)
  have hP : va_P D cL [(h, .inr (8, [.int 0, .ref m_bytes, .int 0, .ref m_w, .int 0, .int 0, .ref m_saved, .int 0, .ref m_line, .ref m_met, .ref m_waiting, .ref m_nextParent, .int 0, .ref m_kind, .ref m_number, .int 0, .ref m_begin, .ref m_table, .ref m_handlers, .ref m_base, .ref m_locals, .ref m_self, .ref m_found, .ref m_place, .ref m_next, .int 0, .ref m_saidKind, .ref m_saidNumber, .int 0, .int 0, .int (-1)])), (m_w, .inl (cI, 5568, .inl f20))] H := hP
  have hD : va_D A [(h, .inr (8, [.int 0, .ref m_bytes, .int 0, .ref m_w, .int 0, .int 0, .ref m_saved, .int 0, .ref m_line, .ref m_met, .ref m_waiting, .ref m_nextParent, .int 0, .ref m_kind, .ref m_number, .int 0, .ref m_begin, .ref m_table, .ref m_handlers, .ref m_base, .ref m_locals, .ref m_self, .ref m_found, .ref m_place, .ref m_next, .int 0, .ref m_saidKind, .ref m_saidNumber, .int 0, .int 0, .int (-1)])), (m_w, .inl (cI, 5568, .inl f20))] := hD
  obtain rfl : r21 = 20 := hp22.trans (by decide)
  refine lv_iconst (v := 0) hx hb d_Model_empty_40 (by decide) ?_
  refine va_iast hx hb hK hP hD hS 1 0 rfl rfl (i := 20) (x := 0) (in_c (by decide)) d_Model_empty_41 (fun H locs hP hD hS => ?_)
  have hP : va_P D cL [(h, .inr (8, [.int 0, .ref m_bytes, .int 0, .ref m_w, .int 0, .int 0, .ref m_saved, .int 0, .ref m_line, .ref m_met, .ref m_waiting, .ref m_nextParent, .int 0, .ref m_kind, .ref m_number, .int 0, .ref m_begin, .ref m_table, .ref m_handlers, .ref m_base, .ref m_locals, .ref m_self, .ref m_found, .ref m_place, .ref m_next, .int 0, .ref m_saidKind, .ref m_saidNumber, .int 0, .int 0, .int (-1)])), (m_w, .inl (cI, 5568, .inl (upd f20 (20 : Int32).toNatClampNeg 0)))] H := hP
  have hD : va_D A [(h, .inr (8, [.int 0, .ref m_bytes, .int 0, .ref m_w, .int 0, .int 0, .ref m_saved, .int 0, .ref m_line, .ref m_met, .ref m_waiting, .ref m_nextParent, .int 0, .ref m_kind, .ref m_number, .int 0, .ref m_begin, .ref m_table, .ref m_handlers, .ref m_base, .ref m_locals, .ref m_self, .ref m_found, .ref m_place, .ref m_next, .int 0, .ref m_saidKind, .ref m_saidNumber, .int 0, .int 0, .int (-1)])), (m_w, .inl (cI, 5568, .inl (upd f20 (20 : Int32).toNatClampNeg 0)))] := hD
  generalize hff23 : upd f20 (20 : Int32).toNatClampNeg 0 = f23 at hP hD
  refine lv_iinc (v := 6) (lv' := [(2, .int 6), (0, .ref h), (1, .int 0)]) hx hb d_Model_empty_42 hl (k := 0) rfl (by decide) (by decide) rfl (fun ls hl => ?_)
  refine lv_goto hx hb d_Model_empty_45 (tgt := 24) (by decide) ?_
  refine lv_iload_n hx hb d_Model_empty_24 rfl (lv_at hl 0 rfl) ?_
  refine lv_bipush (v := 8) hx hb d_Model_empty_25 (by decide) ?_
  refine lv_icmp_ge hx hb d_Model_empty_27 (tgt := 48) (by decide) (fun hz => absurd hz (by decide)) (fun _ => ?_)
  refine lv_aload_n hx hb d_Model_empty_30 rfl (lv_at hl 1 rfl) ?_
  refine va_get (D := D) (ci := 8) (v := .ref m_w) (C := "TaleMachineModel") (T := F_Model) (N := 31) hx hb hts in_Model hown hK hP 0 rfl rfl 3 (by decide) (hts _ k_5) (fun _ h9 => h9) rfl d_Model_empty_31 ?_
  refine lv_aload_n hx hb d_Model_empty_34 rfl (lv_at hl 1 rfl) ?_
  refine lv_iload_n hx hb d_Model_empty_35 rfl (lv_at hl 2 rfl) ?_
  refine lv_iload_n hx hb d_Model_empty_36 rfl (lv_at hl 0 rfl) ?_
  refine mv_i (va_runV (C := "TaleMachineModel") (As := [.int 0, .int 6]) (rest := [.ref m_w]) ⟨hx, hb, hml, hown, hts⟩ (c_Model_placeOf l D cI cZ cJ h 0 6 _ ) (cwV 2 hts (gInV k_11 k_12 k_13 k_4 k_10) rfl rfl rfl (by decide +kernel) ⟨Nat.le_of_ble_eq_true rfl, Nat.le_of_ble_eq_true rfl⟩) (pre_V (va_recv hK hP (q := ("TaleMachineModel", F_Model, 31)) rfl (q0 := 0) rfl) (hP.sub [] rfl) (hK.sub [0, 1, 2] rfl) (hD.sub [] (by decide) rfl) hT) rfl rfl hl.1 rfl (lv_room (Nat.le_of_ble_eq_true rfl)) d_Model_empty_37 ⟨Nat.le_of_ble_eq_true rfl, Nat.le_of_ble_eq_true rfl⟩) hP hD hS hA [] [0, 1] rfl rfl (by decide) (by decide) (wr := [(h, .inr (8, [.int 0, .ref m_bytes, .int 0, .ref m_w, .int 0, .int 0, .ref m_saved, .int 0, .ref m_line, .ref m_met, .ref m_waiting, .ref m_nextParent, .int 0, .ref m_kind, .ref m_number, .int 0, .ref m_begin, .ref m_table, .ref m_handlers, .ref m_base, .ref m_locals, .ref m_self, .ref m_found, .ref m_place, .ref m_next, .int 0, .ref m_saidKind, .ref m_saidNumber, .int 0, .int 0, .int (-1)])), (m_w, .inl (cI, 5568, .inl f23))]) (wn := fun _ => []) (fun _ _ h9 => h9) (fun r24 _ H locs hp25 hP hD hS => ?_)
  have hP : va_P D cL [(h, .inr (8, [.int 0, .ref m_bytes, .int 0, .ref m_w, .int 0, .int 0, .ref m_saved, .int 0, .ref m_line, .ref m_met, .ref m_waiting, .ref m_nextParent, .int 0, .ref m_kind, .ref m_number, .int 0, .ref m_begin, .ref m_table, .ref m_handlers, .ref m_base, .ref m_locals, .ref m_self, .ref m_found, .ref m_place, .ref m_next, .int 0, .ref m_saidKind, .ref m_saidNumber, .int 0, .int 0, .int (-1)])), (m_w, .inl (cI, 5568, .inl f23))] H := hP
  have hD : va_D A [(h, .inr (8, [.int 0, .ref m_bytes, .int 0, .ref m_w, .int 0, .int 0, .ref m_saved, .int 0, .ref m_line, .ref m_met, .ref m_waiting, .ref m_nextParent, .int 0, .ref m_kind, .ref m_number, .int 0, .ref m_begin, .ref m_table, .ref m_handlers, .ref m_base, .ref m_locals, .ref m_self, .ref m_found, .ref m_place, .ref m_next, .int 0, .ref m_saidKind, .ref m_saidNumber, .int 0, .int 0, .int (-1)])), (m_w, .inl (cI, 5568, .inl f23))] := hD
  obtain rfl : r24 = 23 := hp25.trans (by decide)
  refine lv_iconst (v := 0) hx hb d_Model_empty_40 (by decide) ?_
  refine va_iast hx hb hK hP hD hS 1 0 rfl rfl (i := 23) (x := 0) (in_c (by decide)) d_Model_empty_41 (fun H locs hP hD hS => ?_)
  have hP : va_P D cL [(h, .inr (8, [.int 0, .ref m_bytes, .int 0, .ref m_w, .int 0, .int 0, .ref m_saved, .int 0, .ref m_line, .ref m_met, .ref m_waiting, .ref m_nextParent, .int 0, .ref m_kind, .ref m_number, .int 0, .ref m_begin, .ref m_table, .ref m_handlers, .ref m_base, .ref m_locals, .ref m_self, .ref m_found, .ref m_place, .ref m_next, .int 0, .ref m_saidKind, .ref m_saidNumber, .int 0, .int 0, .int (-1)])), (m_w, .inl (cI, 5568, .inl (upd f23 (23 : Int32).toNatClampNeg 0)))] H := hP
  have hD : va_D A [(h, .inr (8, [.int 0, .ref m_bytes, .int 0, .ref m_w, .int 0, .int 0, .ref m_saved, .int 0, .ref m_line, .ref m_met, .ref m_waiting, .ref m_nextParent, .int 0, .ref m_kind, .ref m_number, .int 0, .ref m_begin, .ref m_table, .ref m_handlers, .ref m_base, .ref m_locals, .ref m_self, .ref m_found, .ref m_place, .ref m_next, .int 0, .ref m_saidKind, .ref m_saidNumber, .int 0, .int 0, .int (-1)])), (m_w, .inl (cI, 5568, .inl (upd f23 (23 : Int32).toNatClampNeg 0)))] := hD
  generalize hff26 : upd f23 (23 : Int32).toNatClampNeg 0 = f26 at hP hD
  refine lv_iinc (v := 7) (lv' := [(2, .int 7), (0, .ref h), (1, .int 0)]) hx hb d_Model_empty_42 hl (k := 0) rfl (by decide) (by decide) rfl (fun ls hl => ?_)
  refine lv_goto hx hb d_Model_empty_45 (tgt := 24) (by decide) ?_
  refine lv_iload_n hx hb d_Model_empty_24 rfl (lv_at hl 0 rfl) ?_
  refine lv_bipush (v := 8) hx hb d_Model_empty_25 (by decide) ?_
  refine lv_icmp_ge hx hb d_Model_empty_27 (tgt := 48) (by decide) (fun hz => absurd hz (by decide)) (fun _ => ?_)
  refine lv_aload_n hx hb d_Model_empty_30 rfl (lv_at hl 1 rfl) ?_
  refine va_get (D := D) (ci := 8) (v := .ref m_w) (C := "TaleMachineModel") (T := F_Model) (N := 31) hx hb hts in_Model hown hK hP 0 rfl rfl 3 (by decide) (hts _ k_5) (fun _ h9 => h9) rfl d_Model_empty_31 ?_
  refine lv_aload_n hx hb d_Model_empty_34 rfl (lv_at hl 1 rfl) ?_
  refine lv_iload_n hx hb d_Model_empty_35 rfl (lv_at hl 2 rfl) ?_
  refine lv_iload_n hx hb d_Model_empty_36 rfl (lv_at hl 0 rfl) ?_
  refine mv_i (va_runV (C := "TaleMachineModel") (As := [.int 0, .int 7]) (rest := [.ref m_w]) ⟨hx, hb, hml, hown, hts⟩ (c_Model_placeOf l D cI cZ cJ h 0 7 _ ) (cwV 2 hts (gInV k_11 k_12 k_13 k_4 k_10) rfl rfl rfl (by decide +kernel) ⟨Nat.le_of_ble_eq_true rfl, Nat.le_of_ble_eq_true rfl⟩) (pre_V (va_recv hK hP (q := ("TaleMachineModel", F_Model, 31)) rfl (q0 := 0) rfl) (hP.sub [] rfl) (hK.sub [0, 1, 2] rfl) (hD.sub [] (by decide) rfl) hT) rfl rfl hl.1 rfl (lv_room (Nat.le_of_ble_eq_true rfl)) d_Model_empty_37 ⟨Nat.le_of_ble_eq_true rfl, Nat.le_of_ble_eq_true rfl⟩) hP hD hS hA [] [0, 1] rfl rfl (by decide) (by decide) (wr := [(h, .inr (8, [.int 0, .ref m_bytes, .int 0, .ref m_w, .int 0, .int 0, .ref m_saved, .int 0, .ref m_line, .ref m_met, .ref m_waiting, .ref m_nextParent, .int 0, .ref m_kind, .ref m_number, .int 0, .ref m_begin, .ref m_table, .ref m_handlers, .ref m_base, .ref m_locals, .ref m_self, .ref m_found, .ref m_place, .ref m_next, .int 0, .ref m_saidKind, .ref m_saidNumber, .int 0, .int 0, .int (-1)])), (m_w, .inl (cI, 5568, .inl f26))]) (wn := fun _ => []) (fun _ _ h9 => h9) (fun r27 _ H locs hp28 hP hD hS => ?_)
  have hP : va_P D cL [(h, .inr (8, [.int 0, .ref m_bytes, .int 0, .ref m_w, .int 0, .int 0, .ref m_saved, .int 0, .ref m_line, .ref m_met, .ref m_waiting, .ref m_nextParent, .int 0, .ref m_kind, .ref m_number, .int 0, .ref m_begin, .ref m_table, .ref m_handlers, .ref m_base, .ref m_locals, .ref m_self, .ref m_found, .ref m_place, .ref m_next, .int 0, .ref m_saidKind, .ref m_saidNumber, .int 0, .int 0, .int (-1)])), (m_w, .inl (cI, 5568, .inl f26))] H := hP
  have hD : va_D A [(h, .inr (8, [.int 0, .ref m_bytes, .int 0, .ref m_w, .int 0, .int 0, .ref m_saved, .int 0, .ref m_line, .ref m_met, .ref m_waiting, .ref m_nextParent, .int 0, .ref m_kind, .ref m_number, .int 0, .ref m_begin, .ref m_table, .ref m_handlers, .ref m_base, .ref m_locals, .ref m_self, .ref m_found, .ref m_place, .ref m_next, .int 0, .ref m_saidKind, .ref m_saidNumber, .int 0, .int 0, .int (-1)])), (m_w, .inl (cI, 5568, .inl f26))] := hD
  obtain rfl : r27 = 26 := hp28.trans (by decide)
  refine lv_iconst (v := 0) hx hb d_Model_empty_40 (by decide) ?_
  refine va_iast hx hb hK hP hD hS 1 0 rfl rfl (i := 26) (x := 0) (in_c (by decide)) d_Model_empty_41 (fun H locs hP hD hS => ?_)
  have hP : va_P D cL [(h, .inr (8, [.int 0, .ref m_bytes, .int 0, .ref m_w, .int 0, .int 0, .ref m_saved, .int 0, .ref m_line, .ref m_met, .ref m_waiting, .ref m_nextParent, .int 0, .ref m_kind, .ref m_number, .int 0, .ref m_begin, .ref m_table, .ref m_handlers, .ref m_base, .ref m_locals, .ref m_self, .ref m_found, .ref m_place, .ref m_next, .int 0, .ref m_saidKind, .ref m_saidNumber, .int 0, .int 0, .int (-1)])), (m_w, .inl (cI, 5568, .inl (upd f26 (26 : Int32).toNatClampNeg 0)))] H := hP
  have hD : va_D A [(h, .inr (8, [.int 0, .ref m_bytes, .int 0, .ref m_w, .int 0, .int 0, .ref m_saved, .int 0, .ref m_line, .ref m_met, .ref m_waiting, .ref m_nextParent, .int 0, .ref m_kind, .ref m_number, .int 0, .ref m_begin, .ref m_table, .ref m_handlers, .ref m_base, .ref m_locals, .ref m_self, .ref m_found, .ref m_place, .ref m_next, .int 0, .ref m_saidKind, .ref m_saidNumber, .int 0, .int 0, .int (-1)])), (m_w, .inl (cI, 5568, .inl (upd f26 (26 : Int32).toNatClampNeg 0)))] := hD
  generalize hff29 : upd f26 (26 : Int32).toNatClampNeg 0 = f29 at hP hD
  refine lv_iinc (v := 8) (lv' := [(2, .int 8), (0, .ref h), (1, .int 0)]) hx hb d_Model_empty_42 hl (k := 0) rfl (by decide) (by decide) rfl (fun ls hl => ?_)
  refine lv_goto hx hb d_Model_empty_45 (tgt := 24) (by decide) ?_
  refine lv_iload_n hx hb d_Model_empty_24 rfl (lv_at hl 0 rfl) ?_
  refine lv_bipush (v := 8) hx hb d_Model_empty_25 (by decide) ?_
  refine lv_icmp_ge hx hb d_Model_empty_27 (tgt := 48) (by decide) (fun _ => ?_) (fun hz => absurd (by decide) hz)
  exact end_v hx hb hr hlocks hS (u := f29) (at_end (hP.sub (ws' := [(h, .inr (8, [.int 0, .ref m_bytes, .int 0, .ref m_w, .int 0, .int 0, .ref m_saved, .int 0, .ref m_line, .ref m_met, .ref m_waiting, .ref m_nextParent, .int 0, .ref m_kind, .ref m_number, .int 0, .ref m_begin, .ref m_table, .ref m_handlers, .ref m_base, .ref m_locals, .ref m_self, .ref m_found, .ref m_place, .ref m_next, .int 0, .ref m_saidKind, .ref m_saidNumber, .int 0, .int 0, .int (-1)])), (m_w, .inl (cI, 5568, .inl f29))]) [0, 1] rfl) (hD.sub (ws' := [(h, .inr (8, [.int 0, .ref m_bytes, .int 0, .ref m_w, .int 0, .int 0, .ref m_saved, .int 0, .ref m_line, .ref m_met, .ref m_waiting, .ref m_nextParent, .int 0, .ref m_kind, .ref m_number, .int 0, .ref m_begin, .ref m_table, .ref m_handlers, .ref m_base, .ref m_locals, .ref m_self, .ref m_found, .ref m_place, .ref m_next, .int 0, .ref m_saidKind, .ref m_saidNumber, .int 0, .int 0, .int (-1)])), (m_w, .inl (cI, 5568, .inl f29))]) [0, 1] (by decide) rfl)) (trivial) (Nat.le_of_ble_eq_true rfl) (Nat.le_of_ble_eq_true rfl) d_Model_empty_48

set_option maxHeartbeats 4000000 in
set_option maxRecDepth 100000 in
theorem c_Model_code_1 (l : Launch) (D : va_G) (cI cZ cJ : ClassId) (h m_bytes m_w m_saved m_line m_met m_waiting m_nextParent m_kind m_number m_begin m_table m_handlers m_base m_locals m_self m_found m_place m_next m_saidKind m_saidNumber : Nat) (wd : Int32) (sz : Nat)  : Met l y_Model_code (.code y_Model_code prog_10_method_16_code 4 (some .boolean) :: AW) ({ frames := 1, cells := 0, slots := 0, locals := 22 }) (va_Pc [.ref h, .int wd, .int 1] (pre_ D [(h, .inr (8, [.int 0, .ref m_bytes, .int 0, .ref m_w, .int 0, .int 0, .ref m_saved, .int 0, .ref m_line, .ref m_met, .ref m_waiting, .ref m_nextParent, .int 0, .ref m_kind, .ref m_number, .int 0, .ref m_begin, .ref m_table, .ref m_handlers, .ref m_base, .ref m_locals, .ref m_self, .ref m_found, .ref m_place, .ref m_next, .int 0, .ref m_saidKind, .ref m_saidNumber, .int 0, .int 0, .int (-1)])), (m_bytes, .inl (cI, 300, .inl (fun _ => 0)))] [(cI, .int), (cZ, .boolean), (cJ, .long)] sz)) (va_Qi (fun (r : Int32) (u : Unit) => r = 1) (fun _ t => post_ D (va_A [(h, .inr (8, [.int 0, .ref m_bytes, .int 0, .ref m_w, .int 0, .int 0, .ref m_saved, .int 0, .ref m_line, .ref m_met, .ref m_waiting, .ref m_nextParent, .int 0, .ref m_kind, .ref m_number, .int 0, .ref m_begin, .ref m_table, .ref m_handlers, .ref m_base, .ref m_locals, .ref m_self, .ref m_found, .ref m_place, .ref m_next, .int 0, .ref m_saidKind, .ref m_saidNumber, .int 0, .int 0, .int (-1)])), (m_bytes, .inl (cI, 300, .inl (fun _ => 0)))] sz) [] t) (va_A [(h, .inr (8, [.int 0, .ref m_bytes, .int 0, .ref m_w, .int 0, .int 0, .ref m_saved, .int 0, .ref m_line, .ref m_met, .ref m_waiting, .ref m_nextParent, .int 0, .ref m_kind, .ref m_number, .int 0, .ref m_begin, .ref m_table, .ref m_handlers, .ref m_base, .ref m_locals, .ref m_self, .ref m_found, .ref m_place, .ref m_next, .int 0, .ref m_saidKind, .ref m_saidNumber, .int 0, .int 0, .int (-1)])), (m_bytes, .inl (cI, 300, .inl (fun _ => 0)))] sz)) 0 0 (va_A [(h, .inr (8, [.int 0, .ref m_bytes, .int 0, .ref m_w, .int 0, .int 0, .ref m_saved, .int 0, .ref m_line, .ref m_met, .ref m_waiting, .ref m_nextParent, .int 0, .ref m_kind, .ref m_number, .int 0, .ref m_begin, .ref m_table, .ref m_handlers, .ref m_base, .ref m_locals, .ref m_self, .ref m_found, .ref m_place, .ref m_next, .int 0, .ref m_saidKind, .ref m_saidNumber, .int 0, .int 0, .int (-1)])), (m_bytes, .inl (cI, 300, .inl (fun _ => 0)))] sz) := by
  refine Met.ofW (cc := prog_10_method_16_code) (maxL := 4) (ret := (some .boolean)) (by decide) rfl ?_
  intro p e s m args below meth c s₁ B hml hv
  obtain ⟨rfl, rfl, hP, hK, hD0, hT⟩ := hv
  have hx := B.exec
  have hb := B.bytes
  have hr := B.returns
  have hts0 := atoms_spec (ws := .code y_Model_code prog_10_method_16_code 4 (some .boolean) :: AW) B.pre
  have hts : ∀ w ∈ AW, w.before [.ref h, .int wd, .int 1].toArray s = true := fun w h => hts0 w (List.mem_cons_of_mem _ h)
  have hown : s.vm.findClass "TaleMachineModel" = some m.cls := findClass_of_methodNamed B.named
  have hlocks := B.notSynchronized
  have hD := hD0.self (sz := s.heap.size)
  generalize hAe : va_A [(h, .inr (8, [.int 0, .ref m_bytes, .int 0, .ref m_w, .int 0, .int 0, .ref m_saved, .int 0, .ref m_line, .ref m_met, .ref m_waiting, .ref m_nextParent, .int 0, .ref m_kind, .ref m_number, .int 0, .ref m_begin, .ref m_table, .ref m_handlers, .ref m_base, .ref m_locals, .ref m_self, .ref m_found, .ref m_place, .ref m_next, .int 0, .ref m_saidKind, .ref m_saidNumber, .int 0, .int 0, .int (-1)])), (m_bytes, .inl (cI, 300, .inl (fun _ => 0)))] s.heap.size = A at hD ⊢
  have hA : ∀ q : Nat, s.heap.size ≤ q → A q := fun q h => by rw [← hAe]; exact Or.inr h
  have hS : va_S A s.heap s.heap [] := va_S.rf
  have hl := lv_entry ([.ref h, .int wd, .int 1]) (n := 4) (Nat.le_of_ble_eq_true rfl)
  rw [lg_entry_eq]
  generalize (lg_sl ([.ref h, .int wd, .int 1]) ++ List.replicate (4 - (lg_sl ([.ref h, .int wd, .int 1])).length) Slot.unset).toArray = ls at hl ⊢
  have hl : lv_has ls 4 [(0, .ref h), (1, .int wd), (2, .int 1)] := hl
  refine lv_aload_n hx hb d_Model_code_0 rfl (lv_at hl 0 rfl) ?_
  refine lv_iconst (v := 0) hx hb d_Model_code_1 (by decide) ?_
  refine va_put (D := D) (ci := 8) (v := .int 0) (ty := .int) (C := "TaleMachineModel") (T := F_Model) (N := 31) hx hb hts in_Model t_Model t_Model_ok n_Model hown hK hP hD hS 0 rfl rfl 0 (by decide) (hts _ k_0) (fun _ h9 => h9) rfl (by decide +kernel) rfl rfl (Nat.le_of_ble_eq_true rfl) d_Model_code_2 (fun H locs hP hD hS => ?_)
  have hP : va_P D cL [(h, .inr (8, [.int 0, .ref m_bytes, .int 0, .ref m_w, .int 0, .int 0, .ref m_saved, .int 0, .ref m_line, .ref m_met, .ref m_waiting, .ref m_nextParent, .int 0, .ref m_kind, .ref m_number, .int 0, .ref m_begin, .ref m_table, .ref m_handlers, .ref m_base, .ref m_locals, .ref m_self, .ref m_found, .ref m_place, .ref m_next, .int 0, .ref m_saidKind, .ref m_saidNumber, .int 0, .int 0, .int (-1)])), (m_bytes, .inl (cI, 300, .inl (fun _ => 0)))] H := hP
  have hD : va_D A [(h, .inr (8, [.int 0, .ref m_bytes, .int 0, .ref m_w, .int 0, .int 0, .ref m_saved, .int 0, .ref m_line, .ref m_met, .ref m_waiting, .ref m_nextParent, .int 0, .ref m_kind, .ref m_number, .int 0, .ref m_begin, .ref m_table, .ref m_handlers, .ref m_base, .ref m_locals, .ref m_self, .ref m_found, .ref m_place, .ref m_next, .int 0, .ref m_saidKind, .ref m_saidNumber, .int 0, .int 0, .int (-1)])), (m_bytes, .inl (cI, 300, .inl (fun _ => 0)))] := hD
  refine lv_iload_n hx hb d_Model_code_5 rfl (lv_at hl 2 rfl) ?_
  refine lv_iconst (v := 1) hx hb d_Model_code_6 (by decide) ?_
  refine lv_iconst (v := 4) hx hb d_Model_code_7 (by decide) ?_
  refine mv_i (va_runS (As := [.int 1, .int 1, .int 4]) (rest := []) ⟨hx, hb, hml, hown, hts⟩ (c_Model_outside l D cI cZ cJ 1 1 4 _ ) (va_cwS 3 hts (gInS k_2 k_3 k_4 k_1) rfl rfl rfl (by decide +kernel) ⟨Nat.le_of_ble_eq_true rfl, Nat.le_of_ble_eq_true rfl⟩) (pre_S (hP.sub [] rfl) (hK.sub [0, 1, 2] rfl) (hD.sub [] (by decide) rfl) hT) rfl rfl hl.1 rfl (lv_room (Nat.le_of_ble_eq_true rfl)) d_Model_code_8 ⟨Nat.le_of_ble_eq_true rfl, Nat.le_of_ble_eq_true rfl⟩) hP hD hS hA [] [0, 1] rfl rfl (by decide) (by decide) (wr := [(h, .inr (8, [.int 0, .ref m_bytes, .int 0, .ref m_w, .int 0, .int 0, .ref m_saved, .int 0, .ref m_line, .ref m_met, .ref m_waiting, .ref m_nextParent, .int 0, .ref m_kind, .ref m_number, .int 0, .ref m_begin, .ref m_table, .ref m_handlers, .ref m_base, .ref m_locals, .ref m_self, .ref m_found, .ref m_place, .ref m_next, .int 0, .ref m_saidKind, .ref m_saidNumber, .int 0, .int 0, .int (-1)])), (m_bytes, .inl (cI, 300, .inl (fun _ => 0)))]) (wn := fun _ => []) (fun _ _ h9 => h9) (fun r1 _ H locs hp2 hP hD hS => ?_)
  have hP : va_P D cL [(h, .inr (8, [.int 0, .ref m_bytes, .int 0, .ref m_w, .int 0, .int 0, .ref m_saved, .int 0, .ref m_line, .ref m_met, .ref m_waiting, .ref m_nextParent, .int 0, .ref m_kind, .ref m_number, .int 0, .ref m_begin, .ref m_table, .ref m_handlers, .ref m_base, .ref m_locals, .ref m_self, .ref m_found, .ref m_place, .ref m_next, .int 0, .ref m_saidKind, .ref m_saidNumber, .int 0, .int 0, .int (-1)])), (m_bytes, .inl (cI, 300, .inl (fun _ => 0)))] H := hP
  have hD : va_D A [(h, .inr (8, [.int 0, .ref m_bytes, .int 0, .ref m_w, .int 0, .int 0, .ref m_saved, .int 0, .ref m_line, .ref m_met, .ref m_waiting, .ref m_nextParent, .int 0, .ref m_kind, .ref m_number, .int 0, .ref m_begin, .ref m_table, .ref m_handlers, .ref m_base, .ref m_locals, .ref m_self, .ref m_found, .ref m_place, .ref m_next, .int 0, .ref m_saidKind, .ref m_saidNumber, .int 0, .int 0, .int (-1)])), (m_bytes, .inl (cI, 300, .inl (fun _ => 0)))] := hD
  refine lv_if_ne hx hb d_Model_code_11 (tgt := 26) (by decide) (fun hz => absurd (by rcases hp2.1 with h | h; exact h; exact absurd (hp2.2.mp h) (by decide)) hz) (fun _ => ?_)
  refine lv_aload_n hx hb d_Model_code_14 rfl (lv_at hl 0 rfl) ?_
  refine va_get (D := D) (ci := 8) (v := .int 0) (C := "TaleMachineModel") (T := F_Model) (N := 31) hx hb hts in_Model hown hK hP 0 rfl rfl 2 (by decide) (hts _ k_14) (fun _ h9 => h9) rfl d_Model_code_15 ?_
  refine lv_iload_n hx hb d_Model_code_18 rfl (lv_at hl 2 rfl) ?_
  refine lv_iadd hx hb d_Model_code_19 ?_
  refine lv_topi (fun z3 hz3 => ?_)
  obtain rfl : z3 = 1 := hz3.trans (by decide)
  refine lv_sipush (v := 300) hx hb d_Model_code_20 (by decide) ?_
  refine lv_icmp_le hx hb d_Model_code_23 (tgt := 28) (by decide) (fun _ => ?_) (fun hz => absurd (by decide) hz)
  refine lv_iload_n hx hb d_Model_code_28 rfl (lv_at hl 2 rfl) ?_
  refine lv_iconst (v := 1) hx hb d_Model_code_29 (by decide) ?_
  refine lv_isub hx hb d_Model_code_30 ?_
  refine lv_topi (fun z4 hz4 => ?_)
  obtain rfl : z4 = 0 := hz4.trans (by decide)
  refine lv_istore_n (lv' := [(3, .int 0), (0, .ref h), (1, .int wd), (2, .int 1)]) hx hb d_Model_code_31 rfl hl (by decide) rfl (fun ls hl => ?_)
  refine lv_iload_n hx hb d_Model_code_32 rfl (lv_at hl 0 rfl) ?_
  refine lv_if_lt hx hb d_Model_code_33 (tgt := 71) (by decide) (fun hz => absurd hz (by decide)) (fun _ => ?_)
  refine lv_aload_n hx hb d_Model_code_36 rfl (lv_at hl 1 rfl) ?_
  refine va_get (D := D) (ci := 8) (v := .ref m_bytes) (C := "TaleMachineModel") (T := F_Model) (N := 31) hx hb hts in_Model hown hK hP 0 rfl rfl 1 (by decide) (hts _ k_15) (fun _ h9 => h9) rfl d_Model_code_37 ?_
  refine lv_aload_n hx hb d_Model_code_40 rfl (lv_at hl 1 rfl) ?_
  refine va_get (D := D) (ci := 8) (v := .int 0) (C := "TaleMachineModel") (T := F_Model) (N := 31) hx hb hts in_Model hown hK hP 0 rfl rfl 2 (by decide) (hts _ k_14) (fun _ h9 => h9) rfl d_Model_code_41 ?_
  refine lv_iload_n hx hb d_Model_code_44 rfl (lv_at hl 2 rfl) ?_
  refine lv_bipush (v := 8) hx hb d_Model_code_45 (by decide) ?_
  refine lv_iload_n hx hb d_Model_code_47 rfl (lv_at hl 0 rfl) ?_
  refine lv_imul hx hb d_Model_code_48 ?_
  refine lv_topi (fun z5 hz5 => ?_)
  obtain rfl : z5 = 0 := hz5.trans (by decide)
  refine lv_ishr hx hb d_Model_code_49 ?_
  refine lv_topi (fun z6 hz6 => ?_)
  refine lv_sipush (v := 255) hx hb d_Model_code_50 (by decide) ?_
  refine lv_iand hx hb d_Model_code_53 ?_
  refine lv_topi (fun z7 hz7 => ?_)
  refine va_iast hx hb hK hP hD hS 1 0 rfl rfl (i := 0) (x := z7) (in_c (by decide)) d_Model_code_54 (fun H locs hP hD hS => ?_)
  have hP : va_P D cL [(h, .inr (8, [.int 0, .ref m_bytes, .int 0, .ref m_w, .int 0, .int 0, .ref m_saved, .int 0, .ref m_line, .ref m_met, .ref m_waiting, .ref m_nextParent, .int 0, .ref m_kind, .ref m_number, .int 0, .ref m_begin, .ref m_table, .ref m_handlers, .ref m_base, .ref m_locals, .ref m_self, .ref m_found, .ref m_place, .ref m_next, .int 0, .ref m_saidKind, .ref m_saidNumber, .int 0, .int 0, .int (-1)])), (m_bytes, .inl (cI, 300, .inl (upd (fun _ => 0) (0 : Int32).toNatClampNeg z7)))] H := hP
  have hD : va_D A [(h, .inr (8, [.int 0, .ref m_bytes, .int 0, .ref m_w, .int 0, .int 0, .ref m_saved, .int 0, .ref m_line, .ref m_met, .ref m_waiting, .ref m_nextParent, .int 0, .ref m_kind, .ref m_number, .int 0, .ref m_begin, .ref m_table, .ref m_handlers, .ref m_base, .ref m_locals, .ref m_self, .ref m_found, .ref m_place, .ref m_next, .int 0, .ref m_saidKind, .ref m_saidNumber, .int 0, .int 0, .int (-1)])), (m_bytes, .inl (cI, 300, .inl (upd (fun _ => 0) (0 : Int32).toNatClampNeg z7)))] := hD
  generalize hff8 : upd (fun _ => 0) (0 : Int32).toNatClampNeg z7 = f8 at hP hD
  refine lv_aload_n hx hb d_Model_code_55 rfl (lv_at hl 1 rfl) ?_
  refine lv_dup hx hb d_Model_code_56 rfl ?_
  refine va_get (D := D) (ci := 8) (v := .int 0) (C := "TaleMachineModel") (T := F_Model) (N := 31) hx hb hts in_Model hown hK hP 0 rfl rfl 2 (by decide) (hts _ k_14) (fun _ h9 => h9) rfl d_Model_code_57 ?_
  refine lv_iconst (v := 1) hx hb d_Model_code_60 (by decide) ?_
  refine lv_iadd hx hb d_Model_code_61 ?_
  refine lv_topi (fun z9 hz9 => ?_)
  obtain rfl : z9 = 1 := hz9.trans (by decide)
  refine va_put (D := D) (ci := 8) (v := .int 1) (ty := .int) (C := "TaleMachineModel") (T := F_Model) (N := 31) hx hb hts in_Model t_Model t_Model_ok n_Model hown hK hP hD hS 0 rfl rfl 2 (by decide) (hts _ k_14) (fun _ h9 => h9) rfl (by decide +kernel) rfl rfl (Nat.le_of_ble_eq_true rfl) d_Model_code_62 (fun H locs hP hD hS => ?_)
  have hP : va_P D cL [(h, .inr (8, [.int 0, .ref m_bytes, .int 1, .ref m_w, .int 0, .int 0, .ref m_saved, .int 0, .ref m_line, .ref m_met, .ref m_waiting, .ref m_nextParent, .int 0, .ref m_kind, .ref m_number, .int 0, .ref m_begin, .ref m_table, .ref m_handlers, .ref m_base, .ref m_locals, .ref m_self, .ref m_found, .ref m_place, .ref m_next, .int 0, .ref m_saidKind, .ref m_saidNumber, .int 0, .int 0, .int (-1)])), (m_bytes, .inl (cI, 300, .inl f8))] H := hP
  have hD : va_D A [(h, .inr (8, [.int 0, .ref m_bytes, .int 1, .ref m_w, .int 0, .int 0, .ref m_saved, .int 0, .ref m_line, .ref m_met, .ref m_waiting, .ref m_nextParent, .int 0, .ref m_kind, .ref m_number, .int 0, .ref m_begin, .ref m_table, .ref m_handlers, .ref m_base, .ref m_locals, .ref m_self, .ref m_found, .ref m_place, .ref m_next, .int 0, .ref m_saidKind, .ref m_saidNumber, .int 0, .int 0, .int (-1)])), (m_bytes, .inl (cI, 300, .inl f8))] := hD
  refine lv_iinc (v := (-1)) (lv' := [(3, .int (-1)), (0, .ref h), (1, .int wd), (2, .int 1)]) hx hb d_Model_code_65 hl (k := 0) rfl (by decide) (by decide) rfl (fun ls hl => ?_)
  refine lv_goto hx hb d_Model_code_68 (tgt := 32) (by decide) ?_
  refine lv_iload_n hx hb d_Model_code_32 rfl (lv_at hl 0 rfl) ?_
  refine lv_if_lt hx hb d_Model_code_33 (tgt := 71) (by decide) (fun _ => ?_) (fun hz => absurd (by decide) hz)
  refine lv_iconst (v := 1) hx hb d_Model_code_71 (by decide) ?_
  exact end_z hx hb hr hlocks hS (u := ()) (r := 1) (at_end (hP.sub (ws' := []) [] rfl) (hD.sub (ws' := []) [] (by decide) rfl)) (rfl) (by decide) (Nat.le_of_ble_eq_true rfl) (Nat.le_of_ble_eq_true rfl) d_Model_code_72

set_option maxHeartbeats 4000000 in
set_option maxRecDepth 100000 in
theorem c_Model_code_2 (l : Launch) (D : va_G) (cI cZ cJ : ClassId) (h m_bytes m_w m_saved m_line m_met m_waiting m_nextParent m_kind m_number m_begin m_table m_handlers m_base m_locals m_self m_found m_place m_next m_saidKind m_saidNumber : Nat) (wd : Int32) (sz : Nat)  : Met l y_Model_code (.code y_Model_code prog_10_method_16_code 4 (some .boolean) :: AW) ({ frames := 1, cells := 0, slots := 0, locals := 22 }) (va_Pc [.ref h, .int wd, .int 2] (pre_ D [(h, .inr (8, [.int 0, .ref m_bytes, .int 0, .ref m_w, .int 0, .int 0, .ref m_saved, .int 0, .ref m_line, .ref m_met, .ref m_waiting, .ref m_nextParent, .int 0, .ref m_kind, .ref m_number, .int 0, .ref m_begin, .ref m_table, .ref m_handlers, .ref m_base, .ref m_locals, .ref m_self, .ref m_found, .ref m_place, .ref m_next, .int 0, .ref m_saidKind, .ref m_saidNumber, .int 0, .int 0, .int (-1)])), (m_bytes, .inl (cI, 300, .inl (fun _ => 0)))] [(cI, .int), (cZ, .boolean), (cJ, .long)] sz)) (va_Qi (fun (r : Int32) (u : Unit) => r = 1) (fun _ t => post_ D (va_A [(h, .inr (8, [.int 0, .ref m_bytes, .int 0, .ref m_w, .int 0, .int 0, .ref m_saved, .int 0, .ref m_line, .ref m_met, .ref m_waiting, .ref m_nextParent, .int 0, .ref m_kind, .ref m_number, .int 0, .ref m_begin, .ref m_table, .ref m_handlers, .ref m_base, .ref m_locals, .ref m_self, .ref m_found, .ref m_place, .ref m_next, .int 0, .ref m_saidKind, .ref m_saidNumber, .int 0, .int 0, .int (-1)])), (m_bytes, .inl (cI, 300, .inl (fun _ => 0)))] sz) [] t) (va_A [(h, .inr (8, [.int 0, .ref m_bytes, .int 0, .ref m_w, .int 0, .int 0, .ref m_saved, .int 0, .ref m_line, .ref m_met, .ref m_waiting, .ref m_nextParent, .int 0, .ref m_kind, .ref m_number, .int 0, .ref m_begin, .ref m_table, .ref m_handlers, .ref m_base, .ref m_locals, .ref m_self, .ref m_found, .ref m_place, .ref m_next, .int 0, .ref m_saidKind, .ref m_saidNumber, .int 0, .int 0, .int (-1)])), (m_bytes, .inl (cI, 300, .inl (fun _ => 0)))] sz)) 0 0 (va_A [(h, .inr (8, [.int 0, .ref m_bytes, .int 0, .ref m_w, .int 0, .int 0, .ref m_saved, .int 0, .ref m_line, .ref m_met, .ref m_waiting, .ref m_nextParent, .int 0, .ref m_kind, .ref m_number, .int 0, .ref m_begin, .ref m_table, .ref m_handlers, .ref m_base, .ref m_locals, .ref m_self, .ref m_found, .ref m_place, .ref m_next, .int 0, .ref m_saidKind, .ref m_saidNumber, .int 0, .int 0, .int (-1)])), (m_bytes, .inl (cI, 300, .inl (fun _ => 0)))] sz) := by
  refine Met.ofW (cc := prog_10_method_16_code) (maxL := 4) (ret := (some .boolean)) (by decide) rfl ?_
  intro p e s m args below meth c s₁ B hml hv
  obtain ⟨rfl, rfl, hP, hK, hD0, hT⟩ := hv
  have hx := B.exec
  have hb := B.bytes
  have hr := B.returns
  have hts0 := atoms_spec (ws := .code y_Model_code prog_10_method_16_code 4 (some .boolean) :: AW) B.pre
  have hts : ∀ w ∈ AW, w.before [.ref h, .int wd, .int 2].toArray s = true := fun w h => hts0 w (List.mem_cons_of_mem _ h)
  have hown : s.vm.findClass "TaleMachineModel" = some m.cls := findClass_of_methodNamed B.named
  have hlocks := B.notSynchronized
  have hD := hD0.self (sz := s.heap.size)
  generalize hAe : va_A [(h, .inr (8, [.int 0, .ref m_bytes, .int 0, .ref m_w, .int 0, .int 0, .ref m_saved, .int 0, .ref m_line, .ref m_met, .ref m_waiting, .ref m_nextParent, .int 0, .ref m_kind, .ref m_number, .int 0, .ref m_begin, .ref m_table, .ref m_handlers, .ref m_base, .ref m_locals, .ref m_self, .ref m_found, .ref m_place, .ref m_next, .int 0, .ref m_saidKind, .ref m_saidNumber, .int 0, .int 0, .int (-1)])), (m_bytes, .inl (cI, 300, .inl (fun _ => 0)))] s.heap.size = A at hD ⊢
  have hA : ∀ q : Nat, s.heap.size ≤ q → A q := fun q h => by rw [← hAe]; exact Or.inr h
  have hS : va_S A s.heap s.heap [] := va_S.rf
  have hl := lv_entry ([.ref h, .int wd, .int 2]) (n := 4) (Nat.le_of_ble_eq_true rfl)
  rw [lg_entry_eq]
  generalize (lg_sl ([.ref h, .int wd, .int 2]) ++ List.replicate (4 - (lg_sl ([.ref h, .int wd, .int 2])).length) Slot.unset).toArray = ls at hl ⊢
  have hl : lv_has ls 4 [(0, .ref h), (1, .int wd), (2, .int 2)] := hl
  refine lv_aload_n hx hb d_Model_code_0 rfl (lv_at hl 0 rfl) ?_
  refine lv_iconst (v := 0) hx hb d_Model_code_1 (by decide) ?_
  refine va_put (D := D) (ci := 8) (v := .int 0) (ty := .int) (C := "TaleMachineModel") (T := F_Model) (N := 31) hx hb hts in_Model t_Model t_Model_ok n_Model hown hK hP hD hS 0 rfl rfl 0 (by decide) (hts _ k_0) (fun _ h9 => h9) rfl (by decide +kernel) rfl rfl (Nat.le_of_ble_eq_true rfl) d_Model_code_2 (fun H locs hP hD hS => ?_)
  have hP : va_P D cL [(h, .inr (8, [.int 0, .ref m_bytes, .int 0, .ref m_w, .int 0, .int 0, .ref m_saved, .int 0, .ref m_line, .ref m_met, .ref m_waiting, .ref m_nextParent, .int 0, .ref m_kind, .ref m_number, .int 0, .ref m_begin, .ref m_table, .ref m_handlers, .ref m_base, .ref m_locals, .ref m_self, .ref m_found, .ref m_place, .ref m_next, .int 0, .ref m_saidKind, .ref m_saidNumber, .int 0, .int 0, .int (-1)])), (m_bytes, .inl (cI, 300, .inl (fun _ => 0)))] H := hP
  have hD : va_D A [(h, .inr (8, [.int 0, .ref m_bytes, .int 0, .ref m_w, .int 0, .int 0, .ref m_saved, .int 0, .ref m_line, .ref m_met, .ref m_waiting, .ref m_nextParent, .int 0, .ref m_kind, .ref m_number, .int 0, .ref m_begin, .ref m_table, .ref m_handlers, .ref m_base, .ref m_locals, .ref m_self, .ref m_found, .ref m_place, .ref m_next, .int 0, .ref m_saidKind, .ref m_saidNumber, .int 0, .int 0, .int (-1)])), (m_bytes, .inl (cI, 300, .inl (fun _ => 0)))] := hD
  refine lv_iload_n hx hb d_Model_code_5 rfl (lv_at hl 2 rfl) ?_
  refine lv_iconst (v := 1) hx hb d_Model_code_6 (by decide) ?_
  refine lv_iconst (v := 4) hx hb d_Model_code_7 (by decide) ?_
  refine mv_i (va_runS (As := [.int 2, .int 1, .int 4]) (rest := []) ⟨hx, hb, hml, hown, hts⟩ (c_Model_outside l D cI cZ cJ 2 1 4 _ ) (va_cwS 3 hts (gInS k_2 k_3 k_4 k_1) rfl rfl rfl (by decide +kernel) ⟨Nat.le_of_ble_eq_true rfl, Nat.le_of_ble_eq_true rfl⟩) (pre_S (hP.sub [] rfl) (hK.sub [0, 1, 2] rfl) (hD.sub [] (by decide) rfl) hT) rfl rfl hl.1 rfl (lv_room (Nat.le_of_ble_eq_true rfl)) d_Model_code_8 ⟨Nat.le_of_ble_eq_true rfl, Nat.le_of_ble_eq_true rfl⟩) hP hD hS hA [] [0, 1] rfl rfl (by decide) (by decide) (wr := [(h, .inr (8, [.int 0, .ref m_bytes, .int 0, .ref m_w, .int 0, .int 0, .ref m_saved, .int 0, .ref m_line, .ref m_met, .ref m_waiting, .ref m_nextParent, .int 0, .ref m_kind, .ref m_number, .int 0, .ref m_begin, .ref m_table, .ref m_handlers, .ref m_base, .ref m_locals, .ref m_self, .ref m_found, .ref m_place, .ref m_next, .int 0, .ref m_saidKind, .ref m_saidNumber, .int 0, .int 0, .int (-1)])), (m_bytes, .inl (cI, 300, .inl (fun _ => 0)))]) (wn := fun _ => []) (fun _ _ h9 => h9) (fun r1 _ H locs hp2 hP hD hS => ?_)
  have hP : va_P D cL [(h, .inr (8, [.int 0, .ref m_bytes, .int 0, .ref m_w, .int 0, .int 0, .ref m_saved, .int 0, .ref m_line, .ref m_met, .ref m_waiting, .ref m_nextParent, .int 0, .ref m_kind, .ref m_number, .int 0, .ref m_begin, .ref m_table, .ref m_handlers, .ref m_base, .ref m_locals, .ref m_self, .ref m_found, .ref m_place, .ref m_next, .int 0, .ref m_saidKind, .ref m_saidNumber, .int 0, .int 0, .int (-1)])), (m_bytes, .inl (cI, 300, .inl (fun _ => 0)))] H := hP
  have hD : va_D A [(h, .inr (8, [.int 0, .ref m_bytes, .int 0, .ref m_w, .int 0, .int 0, .ref m_saved, .int 0, .ref m_line, .ref m_met, .ref m_waiting, .ref m_nextParent, .int 0, .ref m_kind, .ref m_number, .int 0, .ref m_begin, .ref m_table, .ref m_handlers, .ref m_base, .ref m_locals, .ref m_self, .ref m_found, .ref m_place, .ref m_next, .int 0, .ref m_saidKind, .ref m_saidNumber, .int 0, .int 0, .int (-1)])), (m_bytes, .inl (cI, 300, .inl (fun _ => 0)))] := hD
  refine lv_if_ne hx hb d_Model_code_11 (tgt := 26) (by decide) (fun hz => absurd (by rcases hp2.1 with h | h; exact h; exact absurd (hp2.2.mp h) (by decide)) hz) (fun _ => ?_)
  refine lv_aload_n hx hb d_Model_code_14 rfl (lv_at hl 0 rfl) ?_
  refine va_get (D := D) (ci := 8) (v := .int 0) (C := "TaleMachineModel") (T := F_Model) (N := 31) hx hb hts in_Model hown hK hP 0 rfl rfl 2 (by decide) (hts _ k_14) (fun _ h9 => h9) rfl d_Model_code_15 ?_
  refine lv_iload_n hx hb d_Model_code_18 rfl (lv_at hl 2 rfl) ?_
  refine lv_iadd hx hb d_Model_code_19 ?_
  refine lv_topi (fun z3 hz3 => ?_)
  obtain rfl : z3 = 2 := hz3.trans (by decide)
  refine lv_sipush (v := 300) hx hb d_Model_code_20 (by decide) ?_
  refine lv_icmp_le hx hb d_Model_code_23 (tgt := 28) (by decide) (fun _ => ?_) (fun hz => absurd (by decide) hz)
  refine lv_iload_n hx hb d_Model_code_28 rfl (lv_at hl 2 rfl) ?_
  refine lv_iconst (v := 1) hx hb d_Model_code_29 (by decide) ?_
  refine lv_isub hx hb d_Model_code_30 ?_
  refine lv_topi (fun z4 hz4 => ?_)
  obtain rfl : z4 = 1 := hz4.trans (by decide)
  refine lv_istore_n (lv' := [(3, .int 1), (0, .ref h), (1, .int wd), (2, .int 2)]) hx hb d_Model_code_31 rfl hl (by decide) rfl (fun ls hl => ?_)
  refine lv_iload_n hx hb d_Model_code_32 rfl (lv_at hl 0 rfl) ?_
  refine lv_if_lt hx hb d_Model_code_33 (tgt := 71) (by decide) (fun hz => absurd hz (by decide)) (fun _ => ?_)
  refine lv_aload_n hx hb d_Model_code_36 rfl (lv_at hl 1 rfl) ?_
  refine va_get (D := D) (ci := 8) (v := .ref m_bytes) (C := "TaleMachineModel") (T := F_Model) (N := 31) hx hb hts in_Model hown hK hP 0 rfl rfl 1 (by decide) (hts _ k_15) (fun _ h9 => h9) rfl d_Model_code_37 ?_
  refine lv_aload_n hx hb d_Model_code_40 rfl (lv_at hl 1 rfl) ?_
  refine va_get (D := D) (ci := 8) (v := .int 0) (C := "TaleMachineModel") (T := F_Model) (N := 31) hx hb hts in_Model hown hK hP 0 rfl rfl 2 (by decide) (hts _ k_14) (fun _ h9 => h9) rfl d_Model_code_41 ?_
  refine lv_iload_n hx hb d_Model_code_44 rfl (lv_at hl 2 rfl) ?_
  refine lv_bipush (v := 8) hx hb d_Model_code_45 (by decide) ?_
  refine lv_iload_n hx hb d_Model_code_47 rfl (lv_at hl 0 rfl) ?_
  refine lv_imul hx hb d_Model_code_48 ?_
  refine lv_topi (fun z5 hz5 => ?_)
  obtain rfl : z5 = 8 := hz5.trans (by decide)
  refine lv_ishr hx hb d_Model_code_49 ?_
  refine lv_topi (fun z6 hz6 => ?_)
  refine lv_sipush (v := 255) hx hb d_Model_code_50 (by decide) ?_
  refine lv_iand hx hb d_Model_code_53 ?_
  refine lv_topi (fun z7 hz7 => ?_)
  refine va_iast hx hb hK hP hD hS 1 0 rfl rfl (i := 0) (x := z7) (in_c (by decide)) d_Model_code_54 (fun H locs hP hD hS => ?_)
  have hP : va_P D cL [(h, .inr (8, [.int 0, .ref m_bytes, .int 0, .ref m_w, .int 0, .int 0, .ref m_saved, .int 0, .ref m_line, .ref m_met, .ref m_waiting, .ref m_nextParent, .int 0, .ref m_kind, .ref m_number, .int 0, .ref m_begin, .ref m_table, .ref m_handlers, .ref m_base, .ref m_locals, .ref m_self, .ref m_found, .ref m_place, .ref m_next, .int 0, .ref m_saidKind, .ref m_saidNumber, .int 0, .int 0, .int (-1)])), (m_bytes, .inl (cI, 300, .inl (upd (fun _ => 0) (0 : Int32).toNatClampNeg z7)))] H := hP
  have hD : va_D A [(h, .inr (8, [.int 0, .ref m_bytes, .int 0, .ref m_w, .int 0, .int 0, .ref m_saved, .int 0, .ref m_line, .ref m_met, .ref m_waiting, .ref m_nextParent, .int 0, .ref m_kind, .ref m_number, .int 0, .ref m_begin, .ref m_table, .ref m_handlers, .ref m_base, .ref m_locals, .ref m_self, .ref m_found, .ref m_place, .ref m_next, .int 0, .ref m_saidKind, .ref m_saidNumber, .int 0, .int 0, .int (-1)])), (m_bytes, .inl (cI, 300, .inl (upd (fun _ => 0) (0 : Int32).toNatClampNeg z7)))] := hD
  generalize hff8 : upd (fun _ => 0) (0 : Int32).toNatClampNeg z7 = f8 at hP hD
  refine lv_aload_n hx hb d_Model_code_55 rfl (lv_at hl 1 rfl) ?_
  refine lv_dup hx hb d_Model_code_56 rfl ?_
  refine va_get (D := D) (ci := 8) (v := .int 0) (C := "TaleMachineModel") (T := F_Model) (N := 31) hx hb hts in_Model hown hK hP 0 rfl rfl 2 (by decide) (hts _ k_14) (fun _ h9 => h9) rfl d_Model_code_57 ?_
  refine lv_iconst (v := 1) hx hb d_Model_code_60 (by decide) ?_
  refine lv_iadd hx hb d_Model_code_61 ?_
  refine lv_topi (fun z9 hz9 => ?_)
  obtain rfl : z9 = 1 := hz9.trans (by decide)
  refine va_put (D := D) (ci := 8) (v := .int 1) (ty := .int) (C := "TaleMachineModel") (T := F_Model) (N := 31) hx hb hts in_Model t_Model t_Model_ok n_Model hown hK hP hD hS 0 rfl rfl 2 (by decide) (hts _ k_14) (fun _ h9 => h9) rfl (by decide +kernel) rfl rfl (Nat.le_of_ble_eq_true rfl) d_Model_code_62 (fun H locs hP hD hS => ?_)
  have hP : va_P D cL [(h, .inr (8, [.int 0, .ref m_bytes, .int 1, .ref m_w, .int 0, .int 0, .ref m_saved, .int 0, .ref m_line, .ref m_met, .ref m_waiting, .ref m_nextParent, .int 0, .ref m_kind, .ref m_number, .int 0, .ref m_begin, .ref m_table, .ref m_handlers, .ref m_base, .ref m_locals, .ref m_self, .ref m_found, .ref m_place, .ref m_next, .int 0, .ref m_saidKind, .ref m_saidNumber, .int 0, .int 0, .int (-1)])), (m_bytes, .inl (cI, 300, .inl f8))] H := hP
  have hD : va_D A [(h, .inr (8, [.int 0, .ref m_bytes, .int 1, .ref m_w, .int 0, .int 0, .ref m_saved, .int 0, .ref m_line, .ref m_met, .ref m_waiting, .ref m_nextParent, .int 0, .ref m_kind, .ref m_number, .int 0, .ref m_begin, .ref m_table, .ref m_handlers, .ref m_base, .ref m_locals, .ref m_self, .ref m_found, .ref m_place, .ref m_next, .int 0, .ref m_saidKind, .ref m_saidNumber, .int 0, .int 0, .int (-1)])), (m_bytes, .inl (cI, 300, .inl f8))] := hD
  refine lv_iinc (v := 0) (lv' := [(3, .int 0), (0, .ref h), (1, .int wd), (2, .int 2)]) hx hb d_Model_code_65 hl (k := 0) rfl (by decide) (by decide) rfl (fun ls hl => ?_)
  refine lv_goto hx hb d_Model_code_68 (tgt := 32) (by decide) ?_
  refine lv_iload_n hx hb d_Model_code_32 rfl (lv_at hl 0 rfl) ?_
  refine lv_if_lt hx hb d_Model_code_33 (tgt := 71) (by decide) (fun hz => absurd hz (by decide)) (fun _ => ?_)
  refine lv_aload_n hx hb d_Model_code_36 rfl (lv_at hl 1 rfl) ?_
  refine va_get (D := D) (ci := 8) (v := .ref m_bytes) (C := "TaleMachineModel") (T := F_Model) (N := 31) hx hb hts in_Model hown hK hP 0 rfl rfl 1 (by decide) (hts _ k_15) (fun _ h9 => h9) rfl d_Model_code_37 ?_
  refine lv_aload_n hx hb d_Model_code_40 rfl (lv_at hl 1 rfl) ?_
  refine va_get (D := D) (ci := 8) (v := .int 1) (C := "TaleMachineModel") (T := F_Model) (N := 31) hx hb hts in_Model hown hK hP 0 rfl rfl 2 (by decide) (hts _ k_14) (fun _ h9 => h9) rfl d_Model_code_41 ?_
  refine lv_iload_n hx hb d_Model_code_44 rfl (lv_at hl 2 rfl) ?_
  refine lv_bipush (v := 8) hx hb d_Model_code_45 (by decide) ?_
  refine lv_iload_n hx hb d_Model_code_47 rfl (lv_at hl 0 rfl) ?_
  refine lv_imul hx hb d_Model_code_48 ?_
  refine lv_topi (fun z10 hz10 => ?_)
  obtain rfl : z10 = 0 := hz10.trans (by decide)
  refine lv_ishr hx hb d_Model_code_49 ?_
  refine lv_topi (fun z11 hz11 => ?_)
  refine lv_sipush (v := 255) hx hb d_Model_code_50 (by decide) ?_
  refine lv_iand hx hb d_Model_code_53 ?_
  refine lv_topi (fun z12 hz12 => ?_)
  refine va_iast hx hb hK hP hD hS 1 0 rfl rfl (i := 1) (x := z12) (in_c (by decide)) d_Model_code_54 (fun H locs hP hD hS => ?_)
  have hP : va_P D cL [(h, .inr (8, [.int 0, .ref m_bytes, .int 1, .ref m_w, .int 0, .int 0, .ref m_saved, .int 0, .ref m_line, .ref m_met, .ref m_waiting, .ref m_nextParent, .int 0, .ref m_kind, .ref m_number, .int 0, .ref m_begin, .ref m_table, .ref m_handlers, .ref m_base, .ref m_locals, .ref m_self, .ref m_found, .ref m_place, .ref m_next, .int 0, .ref m_saidKind, .ref m_saidNumber, .int 0, .int 0, .int (-1)])), (m_bytes, .inl (cI, 300, .inl (upd f8 (1 : Int32).toNatClampNeg z12)))] H := hP
  have hD : va_D A [(h, .inr (8, [.int 0, .ref m_bytes, .int 1, .ref m_w, .int 0, .int 0, .ref m_saved, .int 0, .ref m_line, .ref m_met, .ref m_waiting, .ref m_nextParent, .int 0, .ref m_kind, .ref m_number, .int 0, .ref m_begin, .ref m_table, .ref m_handlers, .ref m_base, .ref m_locals, .ref m_self, .ref m_found, .ref m_place, .ref m_next, .int 0, .ref m_saidKind, .ref m_saidNumber, .int 0, .int 0, .int (-1)])), (m_bytes, .inl (cI, 300, .inl (upd f8 (1 : Int32).toNatClampNeg z12)))] := hD
  generalize hff13 : upd f8 (1 : Int32).toNatClampNeg z12 = f13 at hP hD
  refine lv_aload_n hx hb d_Model_code_55 rfl (lv_at hl 1 rfl) ?_
  refine lv_dup hx hb d_Model_code_56 rfl ?_
  refine va_get (D := D) (ci := 8) (v := .int 1) (C := "TaleMachineModel") (T := F_Model) (N := 31) hx hb hts in_Model hown hK hP 0 rfl rfl 2 (by decide) (hts _ k_14) (fun _ h9 => h9) rfl d_Model_code_57 ?_
  refine lv_iconst (v := 1) hx hb d_Model_code_60 (by decide) ?_
  refine lv_iadd hx hb d_Model_code_61 ?_
  refine lv_topi (fun z14 hz14 => ?_)
  obtain rfl : z14 = 2 := hz14.trans (by decide)
  refine va_put (D := D) (ci := 8) (v := .int 2) (ty := .int) (C := "TaleMachineModel") (T := F_Model) (N := 31) hx hb hts in_Model t_Model t_Model_ok n_Model hown hK hP hD hS 0 rfl rfl 2 (by decide) (hts _ k_14) (fun _ h9 => h9) rfl (by decide +kernel) rfl rfl (Nat.le_of_ble_eq_true rfl) d_Model_code_62 (fun H locs hP hD hS => ?_)
  have hP : va_P D cL [(h, .inr (8, [.int 0, .ref m_bytes, .int 2, .ref m_w, .int 0, .int 0, .ref m_saved, .int 0, .ref m_line, .ref m_met, .ref m_waiting, .ref m_nextParent, .int 0, .ref m_kind, .ref m_number, .int 0, .ref m_begin, .ref m_table, .ref m_handlers, .ref m_base, .ref m_locals, .ref m_self, .ref m_found, .ref m_place, .ref m_next, .int 0, .ref m_saidKind, .ref m_saidNumber, .int 0, .int 0, .int (-1)])), (m_bytes, .inl (cI, 300, .inl f13))] H := hP
  have hD : va_D A [(h, .inr (8, [.int 0, .ref m_bytes, .int 2, .ref m_w, .int 0, .int 0, .ref m_saved, .int 0, .ref m_line, .ref m_met, .ref m_waiting, .ref m_nextParent, .int 0, .ref m_kind, .ref m_number, .int 0, .ref m_begin, .ref m_table, .ref m_handlers, .ref m_base, .ref m_locals, .ref m_self, .ref m_found, .ref m_place, .ref m_next, .int 0, .ref m_saidKind, .ref m_saidNumber, .int 0, .int 0, .int (-1)])), (m_bytes, .inl (cI, 300, .inl f13))] := hD
  refine lv_iinc (v := (-1)) (lv' := [(3, .int (-1)), (0, .ref h), (1, .int wd), (2, .int 2)]) hx hb d_Model_code_65 hl (k := 0) rfl (by decide) (by decide) rfl (fun ls hl => ?_)
  refine lv_goto hx hb d_Model_code_68 (tgt := 32) (by decide) ?_
  refine lv_iload_n hx hb d_Model_code_32 rfl (lv_at hl 0 rfl) ?_
  refine lv_if_lt hx hb d_Model_code_33 (tgt := 71) (by decide) (fun _ => ?_) (fun hz => absurd (by decide) hz)
  refine lv_iconst (v := 1) hx hb d_Model_code_71 (by decide) ?_
  exact end_z hx hb hr hlocks hS (u := ()) (r := 1) (at_end (hP.sub (ws' := []) [] rfl) (hD.sub (ws' := []) [] (by decide) rfl)) (rfl) (by decide) (Nat.le_of_ble_eq_true rfl) (Nat.le_of_ble_eq_true rfl) d_Model_code_72

set_option maxHeartbeats 4000000 in
set_option maxRecDepth 100000 in
theorem c_Model_code_3 (l : Launch) (D : va_G) (cI cZ cJ : ClassId) (h m_bytes m_w m_saved m_line m_met m_waiting m_nextParent m_kind m_number m_begin m_table m_handlers m_base m_locals m_self m_found m_place m_next m_saidKind m_saidNumber : Nat) (wd : Int32) (sz : Nat)  : Met l y_Model_code (.code y_Model_code prog_10_method_16_code 4 (some .boolean) :: AW) ({ frames := 1, cells := 0, slots := 0, locals := 22 }) (va_Pc [.ref h, .int wd, .int 3] (pre_ D [(h, .inr (8, [.int 0, .ref m_bytes, .int 0, .ref m_w, .int 0, .int 0, .ref m_saved, .int 0, .ref m_line, .ref m_met, .ref m_waiting, .ref m_nextParent, .int 0, .ref m_kind, .ref m_number, .int 0, .ref m_begin, .ref m_table, .ref m_handlers, .ref m_base, .ref m_locals, .ref m_self, .ref m_found, .ref m_place, .ref m_next, .int 0, .ref m_saidKind, .ref m_saidNumber, .int 0, .int 0, .int (-1)])), (m_bytes, .inl (cI, 300, .inl (fun _ => 0)))] [(cI, .int), (cZ, .boolean), (cJ, .long)] sz)) (va_Qi (fun (r : Int32) (u : Unit) => r = 1) (fun _ t => post_ D (va_A [(h, .inr (8, [.int 0, .ref m_bytes, .int 0, .ref m_w, .int 0, .int 0, .ref m_saved, .int 0, .ref m_line, .ref m_met, .ref m_waiting, .ref m_nextParent, .int 0, .ref m_kind, .ref m_number, .int 0, .ref m_begin, .ref m_table, .ref m_handlers, .ref m_base, .ref m_locals, .ref m_self, .ref m_found, .ref m_place, .ref m_next, .int 0, .ref m_saidKind, .ref m_saidNumber, .int 0, .int 0, .int (-1)])), (m_bytes, .inl (cI, 300, .inl (fun _ => 0)))] sz) [] t) (va_A [(h, .inr (8, [.int 0, .ref m_bytes, .int 0, .ref m_w, .int 0, .int 0, .ref m_saved, .int 0, .ref m_line, .ref m_met, .ref m_waiting, .ref m_nextParent, .int 0, .ref m_kind, .ref m_number, .int 0, .ref m_begin, .ref m_table, .ref m_handlers, .ref m_base, .ref m_locals, .ref m_self, .ref m_found, .ref m_place, .ref m_next, .int 0, .ref m_saidKind, .ref m_saidNumber, .int 0, .int 0, .int (-1)])), (m_bytes, .inl (cI, 300, .inl (fun _ => 0)))] sz)) 0 0 (va_A [(h, .inr (8, [.int 0, .ref m_bytes, .int 0, .ref m_w, .int 0, .int 0, .ref m_saved, .int 0, .ref m_line, .ref m_met, .ref m_waiting, .ref m_nextParent, .int 0, .ref m_kind, .ref m_number, .int 0, .ref m_begin, .ref m_table, .ref m_handlers, .ref m_base, .ref m_locals, .ref m_self, .ref m_found, .ref m_place, .ref m_next, .int 0, .ref m_saidKind, .ref m_saidNumber, .int 0, .int 0, .int (-1)])), (m_bytes, .inl (cI, 300, .inl (fun _ => 0)))] sz) := by
  refine Met.ofW (cc := prog_10_method_16_code) (maxL := 4) (ret := (some .boolean)) (by decide) rfl ?_
  intro p e s m args below meth c s₁ B hml hv
  obtain ⟨rfl, rfl, hP, hK, hD0, hT⟩ := hv
  have hx := B.exec
  have hb := B.bytes
  have hr := B.returns
  have hts0 := atoms_spec (ws := .code y_Model_code prog_10_method_16_code 4 (some .boolean) :: AW) B.pre
  have hts : ∀ w ∈ AW, w.before [.ref h, .int wd, .int 3].toArray s = true := fun w h => hts0 w (List.mem_cons_of_mem _ h)
  have hown : s.vm.findClass "TaleMachineModel" = some m.cls := findClass_of_methodNamed B.named
  have hlocks := B.notSynchronized
  have hD := hD0.self (sz := s.heap.size)
  generalize hAe : va_A [(h, .inr (8, [.int 0, .ref m_bytes, .int 0, .ref m_w, .int 0, .int 0, .ref m_saved, .int 0, .ref m_line, .ref m_met, .ref m_waiting, .ref m_nextParent, .int 0, .ref m_kind, .ref m_number, .int 0, .ref m_begin, .ref m_table, .ref m_handlers, .ref m_base, .ref m_locals, .ref m_self, .ref m_found, .ref m_place, .ref m_next, .int 0, .ref m_saidKind, .ref m_saidNumber, .int 0, .int 0, .int (-1)])), (m_bytes, .inl (cI, 300, .inl (fun _ => 0)))] s.heap.size = A at hD ⊢
  have hA : ∀ q : Nat, s.heap.size ≤ q → A q := fun q h => by rw [← hAe]; exact Or.inr h
  have hS : va_S A s.heap s.heap [] := va_S.rf
  have hl := lv_entry ([.ref h, .int wd, .int 3]) (n := 4) (Nat.le_of_ble_eq_true rfl)
  rw [lg_entry_eq]
  generalize (lg_sl ([.ref h, .int wd, .int 3]) ++ List.replicate (4 - (lg_sl ([.ref h, .int wd, .int 3])).length) Slot.unset).toArray = ls at hl ⊢
  have hl : lv_has ls 4 [(0, .ref h), (1, .int wd), (2, .int 3)] := hl
  refine lv_aload_n hx hb d_Model_code_0 rfl (lv_at hl 0 rfl) ?_
  refine lv_iconst (v := 0) hx hb d_Model_code_1 (by decide) ?_
  refine va_put (D := D) (ci := 8) (v := .int 0) (ty := .int) (C := "TaleMachineModel") (T := F_Model) (N := 31) hx hb hts in_Model t_Model t_Model_ok n_Model hown hK hP hD hS 0 rfl rfl 0 (by decide) (hts _ k_0) (fun _ h9 => h9) rfl (by decide +kernel) rfl rfl (Nat.le_of_ble_eq_true rfl) d_Model_code_2 (fun H locs hP hD hS => ?_)
  have hP : va_P D cL [(h, .inr (8, [.int 0, .ref m_bytes, .int 0, .ref m_w, .int 0, .int 0, .ref m_saved, .int 0, .ref m_line, .ref m_met, .ref m_waiting, .ref m_nextParent, .int 0, .ref m_kind, .ref m_number, .int 0, .ref m_begin, .ref m_table, .ref m_handlers, .ref m_base, .ref m_locals, .ref m_self, .ref m_found, .ref m_place, .ref m_next, .int 0, .ref m_saidKind, .ref m_saidNumber, .int 0, .int 0, .int (-1)])), (m_bytes, .inl (cI, 300, .inl (fun _ => 0)))] H := hP
  have hD : va_D A [(h, .inr (8, [.int 0, .ref m_bytes, .int 0, .ref m_w, .int 0, .int 0, .ref m_saved, .int 0, .ref m_line, .ref m_met, .ref m_waiting, .ref m_nextParent, .int 0, .ref m_kind, .ref m_number, .int 0, .ref m_begin, .ref m_table, .ref m_handlers, .ref m_base, .ref m_locals, .ref m_self, .ref m_found, .ref m_place, .ref m_next, .int 0, .ref m_saidKind, .ref m_saidNumber, .int 0, .int 0, .int (-1)])), (m_bytes, .inl (cI, 300, .inl (fun _ => 0)))] := hD
  refine lv_iload_n hx hb d_Model_code_5 rfl (lv_at hl 2 rfl) ?_
  refine lv_iconst (v := 1) hx hb d_Model_code_6 (by decide) ?_
  refine lv_iconst (v := 4) hx hb d_Model_code_7 (by decide) ?_
  refine mv_i (va_runS (As := [.int 3, .int 1, .int 4]) (rest := []) ⟨hx, hb, hml, hown, hts⟩ (c_Model_outside l D cI cZ cJ 3 1 4 _ ) (va_cwS 3 hts (gInS k_2 k_3 k_4 k_1) rfl rfl rfl (by decide +kernel) ⟨Nat.le_of_ble_eq_true rfl, Nat.le_of_ble_eq_true rfl⟩) (pre_S (hP.sub [] rfl) (hK.sub [0, 1, 2] rfl) (hD.sub [] (by decide) rfl) hT) rfl rfl hl.1 rfl (lv_room (Nat.le_of_ble_eq_true rfl)) d_Model_code_8 ⟨Nat.le_of_ble_eq_true rfl, Nat.le_of_ble_eq_true rfl⟩) hP hD hS hA [] [0, 1] rfl rfl (by decide) (by decide) (wr := [(h, .inr (8, [.int 0, .ref m_bytes, .int 0, .ref m_w, .int 0, .int 0, .ref m_saved, .int 0, .ref m_line, .ref m_met, .ref m_waiting, .ref m_nextParent, .int 0, .ref m_kind, .ref m_number, .int 0, .ref m_begin, .ref m_table, .ref m_handlers, .ref m_base, .ref m_locals, .ref m_self, .ref m_found, .ref m_place, .ref m_next, .int 0, .ref m_saidKind, .ref m_saidNumber, .int 0, .int 0, .int (-1)])), (m_bytes, .inl (cI, 300, .inl (fun _ => 0)))]) (wn := fun _ => []) (fun _ _ h9 => h9) (fun r1 _ H locs hp2 hP hD hS => ?_)
  have hP : va_P D cL [(h, .inr (8, [.int 0, .ref m_bytes, .int 0, .ref m_w, .int 0, .int 0, .ref m_saved, .int 0, .ref m_line, .ref m_met, .ref m_waiting, .ref m_nextParent, .int 0, .ref m_kind, .ref m_number, .int 0, .ref m_begin, .ref m_table, .ref m_handlers, .ref m_base, .ref m_locals, .ref m_self, .ref m_found, .ref m_place, .ref m_next, .int 0, .ref m_saidKind, .ref m_saidNumber, .int 0, .int 0, .int (-1)])), (m_bytes, .inl (cI, 300, .inl (fun _ => 0)))] H := hP
  have hD : va_D A [(h, .inr (8, [.int 0, .ref m_bytes, .int 0, .ref m_w, .int 0, .int 0, .ref m_saved, .int 0, .ref m_line, .ref m_met, .ref m_waiting, .ref m_nextParent, .int 0, .ref m_kind, .ref m_number, .int 0, .ref m_begin, .ref m_table, .ref m_handlers, .ref m_base, .ref m_locals, .ref m_self, .ref m_found, .ref m_place, .ref m_next, .int 0, .ref m_saidKind, .ref m_saidNumber, .int 0, .int 0, .int (-1)])), (m_bytes, .inl (cI, 300, .inl (fun _ => 0)))] := hD
  refine lv_if_ne hx hb d_Model_code_11 (tgt := 26) (by decide) (fun hz => absurd (by rcases hp2.1 with h | h; exact h; exact absurd (hp2.2.mp h) (by decide)) hz) (fun _ => ?_)
  refine lv_aload_n hx hb d_Model_code_14 rfl (lv_at hl 0 rfl) ?_
  refine va_get (D := D) (ci := 8) (v := .int 0) (C := "TaleMachineModel") (T := F_Model) (N := 31) hx hb hts in_Model hown hK hP 0 rfl rfl 2 (by decide) (hts _ k_14) (fun _ h9 => h9) rfl d_Model_code_15 ?_
  refine lv_iload_n hx hb d_Model_code_18 rfl (lv_at hl 2 rfl) ?_
  refine lv_iadd hx hb d_Model_code_19 ?_
  refine lv_topi (fun z3 hz3 => ?_)
  obtain rfl : z3 = 3 := hz3.trans (by decide)
  refine lv_sipush (v := 300) hx hb d_Model_code_20 (by decide) ?_
  refine lv_icmp_le hx hb d_Model_code_23 (tgt := 28) (by decide) (fun _ => ?_) (fun hz => absurd (by decide) hz)
  refine lv_iload_n hx hb d_Model_code_28 rfl (lv_at hl 2 rfl) ?_
  refine lv_iconst (v := 1) hx hb d_Model_code_29 (by decide) ?_
  refine lv_isub hx hb d_Model_code_30 ?_
  refine lv_topi (fun z4 hz4 => ?_)
  obtain rfl : z4 = 2 := hz4.trans (by decide)
  refine lv_istore_n (lv' := [(3, .int 2), (0, .ref h), (1, .int wd), (2, .int 3)]) hx hb d_Model_code_31 rfl hl (by decide) rfl (fun ls hl => ?_)
  refine lv_iload_n hx hb d_Model_code_32 rfl (lv_at hl 0 rfl) ?_
  refine lv_if_lt hx hb d_Model_code_33 (tgt := 71) (by decide) (fun hz => absurd hz (by decide)) (fun _ => ?_)
  refine lv_aload_n hx hb d_Model_code_36 rfl (lv_at hl 1 rfl) ?_
  refine va_get (D := D) (ci := 8) (v := .ref m_bytes) (C := "TaleMachineModel") (T := F_Model) (N := 31) hx hb hts in_Model hown hK hP 0 rfl rfl 1 (by decide) (hts _ k_15) (fun _ h9 => h9) rfl d_Model_code_37 ?_
  refine lv_aload_n hx hb d_Model_code_40 rfl (lv_at hl 1 rfl) ?_
  refine va_get (D := D) (ci := 8) (v := .int 0) (C := "TaleMachineModel") (T := F_Model) (N := 31) hx hb hts in_Model hown hK hP 0 rfl rfl 2 (by decide) (hts _ k_14) (fun _ h9 => h9) rfl d_Model_code_41 ?_
  refine lv_iload_n hx hb d_Model_code_44 rfl (lv_at hl 2 rfl) ?_
  refine lv_bipush (v := 8) hx hb d_Model_code_45 (by decide) ?_
  refine lv_iload_n hx hb d_Model_code_47 rfl (lv_at hl 0 rfl) ?_
  refine lv_imul hx hb d_Model_code_48 ?_
  refine lv_topi (fun z5 hz5 => ?_)
  obtain rfl : z5 = 16 := hz5.trans (by decide)
  refine lv_ishr hx hb d_Model_code_49 ?_
  refine lv_topi (fun z6 hz6 => ?_)
  refine lv_sipush (v := 255) hx hb d_Model_code_50 (by decide) ?_
  refine lv_iand hx hb d_Model_code_53 ?_
  refine lv_topi (fun z7 hz7 => ?_)
  refine va_iast hx hb hK hP hD hS 1 0 rfl rfl (i := 0) (x := z7) (in_c (by decide)) d_Model_code_54 (fun H locs hP hD hS => ?_)
  have hP : va_P D cL [(h, .inr (8, [.int 0, .ref m_bytes, .int 0, .ref m_w, .int 0, .int 0, .ref m_saved, .int 0, .ref m_line, .ref m_met, .ref m_waiting, .ref m_nextParent, .int 0, .ref m_kind, .ref m_number, .int 0, .ref m_begin, .ref m_table, .ref m_handlers, .ref m_base, .ref m_locals, .ref m_self, .ref m_found, .ref m_place, .ref m_next, .int 0, .ref m_saidKind, .ref m_saidNumber, .int 0, .int 0, .int (-1)])), (m_bytes, .inl (cI, 300, .inl (upd (fun _ => 0) (0 : Int32).toNatClampNeg z7)))] H := hP
  have hD : va_D A [(h, .inr (8, [.int 0, .ref m_bytes, .int 0, .ref m_w, .int 0, .int 0, .ref m_saved, .int 0, .ref m_line, .ref m_met, .ref m_waiting, .ref m_nextParent, .int 0, .ref m_kind, .ref m_number, .int 0, .ref m_begin, .ref m_table, .ref m_handlers, .ref m_base, .ref m_locals, .ref m_self, .ref m_found, .ref m_place, .ref m_next, .int 0, .ref m_saidKind, .ref m_saidNumber, .int 0, .int 0, .int (-1)])), (m_bytes, .inl (cI, 300, .inl (upd (fun _ => 0) (0 : Int32).toNatClampNeg z7)))] := hD
  generalize hff8 : upd (fun _ => 0) (0 : Int32).toNatClampNeg z7 = f8 at hP hD
  refine lv_aload_n hx hb d_Model_code_55 rfl (lv_at hl 1 rfl) ?_
  refine lv_dup hx hb d_Model_code_56 rfl ?_
  refine va_get (D := D) (ci := 8) (v := .int 0) (C := "TaleMachineModel") (T := F_Model) (N := 31) hx hb hts in_Model hown hK hP 0 rfl rfl 2 (by decide) (hts _ k_14) (fun _ h9 => h9) rfl d_Model_code_57 ?_
  refine lv_iconst (v := 1) hx hb d_Model_code_60 (by decide) ?_
  refine lv_iadd hx hb d_Model_code_61 ?_
  refine lv_topi (fun z9 hz9 => ?_)
  obtain rfl : z9 = 1 := hz9.trans (by decide)
  refine va_put (D := D) (ci := 8) (v := .int 1) (ty := .int) (C := "TaleMachineModel") (T := F_Model) (N := 31) hx hb hts in_Model t_Model t_Model_ok n_Model hown hK hP hD hS 0 rfl rfl 2 (by decide) (hts _ k_14) (fun _ h9 => h9) rfl (by decide +kernel) rfl rfl (Nat.le_of_ble_eq_true rfl) d_Model_code_62 (fun H locs hP hD hS => ?_)
  have hP : va_P D cL [(h, .inr (8, [.int 0, .ref m_bytes, .int 1, .ref m_w, .int 0, .int 0, .ref m_saved, .int 0, .ref m_line, .ref m_met, .ref m_waiting, .ref m_nextParent, .int 0, .ref m_kind, .ref m_number, .int 0, .ref m_begin, .ref m_table, .ref m_handlers, .ref m_base, .ref m_locals, .ref m_self, .ref m_found, .ref m_place, .ref m_next, .int 0, .ref m_saidKind, .ref m_saidNumber, .int 0, .int 0, .int (-1)])), (m_bytes, .inl (cI, 300, .inl f8))] H := hP
  have hD : va_D A [(h, .inr (8, [.int 0, .ref m_bytes, .int 1, .ref m_w, .int 0, .int 0, .ref m_saved, .int 0, .ref m_line, .ref m_met, .ref m_waiting, .ref m_nextParent, .int 0, .ref m_kind, .ref m_number, .int 0, .ref m_begin, .ref m_table, .ref m_handlers, .ref m_base, .ref m_locals, .ref m_self, .ref m_found, .ref m_place, .ref m_next, .int 0, .ref m_saidKind, .ref m_saidNumber, .int 0, .int 0, .int (-1)])), (m_bytes, .inl (cI, 300, .inl f8))] := hD
  refine lv_iinc (v := 1) (lv' := [(3, .int 1), (0, .ref h), (1, .int wd), (2, .int 3)]) hx hb d_Model_code_65 hl (k := 0) rfl (by decide) (by decide) rfl (fun ls hl => ?_)
  refine lv_goto hx hb d_Model_code_68 (tgt := 32) (by decide) ?_
  refine lv_iload_n hx hb d_Model_code_32 rfl (lv_at hl 0 rfl) ?_
  refine lv_if_lt hx hb d_Model_code_33 (tgt := 71) (by decide) (fun hz => absurd hz (by decide)) (fun _ => ?_)
  refine lv_aload_n hx hb d_Model_code_36 rfl (lv_at hl 1 rfl) ?_
  refine va_get (D := D) (ci := 8) (v := .ref m_bytes) (C := "TaleMachineModel") (T := F_Model) (N := 31) hx hb hts in_Model hown hK hP 0 rfl rfl 1 (by decide) (hts _ k_15) (fun _ h9 => h9) rfl d_Model_code_37 ?_
  refine lv_aload_n hx hb d_Model_code_40 rfl (lv_at hl 1 rfl) ?_
  refine va_get (D := D) (ci := 8) (v := .int 1) (C := "TaleMachineModel") (T := F_Model) (N := 31) hx hb hts in_Model hown hK hP 0 rfl rfl 2 (by decide) (hts _ k_14) (fun _ h9 => h9) rfl d_Model_code_41 ?_
  refine lv_iload_n hx hb d_Model_code_44 rfl (lv_at hl 2 rfl) ?_
  refine lv_bipush (v := 8) hx hb d_Model_code_45 (by decide) ?_
  refine lv_iload_n hx hb d_Model_code_47 rfl (lv_at hl 0 rfl) ?_
  refine lv_imul hx hb d_Model_code_48 ?_
  refine lv_topi (fun z10 hz10 => ?_)
  obtain rfl : z10 = 8 := hz10.trans (by decide)
  refine lv_ishr hx hb d_Model_code_49 ?_
  refine lv_topi (fun z11 hz11 => ?_)
  refine lv_sipush (v := 255) hx hb d_Model_code_50 (by decide) ?_
  refine lv_iand hx hb d_Model_code_53 ?_
  refine lv_topi (fun z12 hz12 => ?_)
  refine va_iast hx hb hK hP hD hS 1 0 rfl rfl (i := 1) (x := z12) (in_c (by decide)) d_Model_code_54 (fun H locs hP hD hS => ?_)
  have hP : va_P D cL [(h, .inr (8, [.int 0, .ref m_bytes, .int 1, .ref m_w, .int 0, .int 0, .ref m_saved, .int 0, .ref m_line, .ref m_met, .ref m_waiting, .ref m_nextParent, .int 0, .ref m_kind, .ref m_number, .int 0, .ref m_begin, .ref m_table, .ref m_handlers, .ref m_base, .ref m_locals, .ref m_self, .ref m_found, .ref m_place, .ref m_next, .int 0, .ref m_saidKind, .ref m_saidNumber, .int 0, .int 0, .int (-1)])), (m_bytes, .inl (cI, 300, .inl (upd f8 (1 : Int32).toNatClampNeg z12)))] H := hP
  have hD : va_D A [(h, .inr (8, [.int 0, .ref m_bytes, .int 1, .ref m_w, .int 0, .int 0, .ref m_saved, .int 0, .ref m_line, .ref m_met, .ref m_waiting, .ref m_nextParent, .int 0, .ref m_kind, .ref m_number, .int 0, .ref m_begin, .ref m_table, .ref m_handlers, .ref m_base, .ref m_locals, .ref m_self, .ref m_found, .ref m_place, .ref m_next, .int 0, .ref m_saidKind, .ref m_saidNumber, .int 0, .int 0, .int (-1)])), (m_bytes, .inl (cI, 300, .inl (upd f8 (1 : Int32).toNatClampNeg z12)))] := hD
  generalize hff13 : upd f8 (1 : Int32).toNatClampNeg z12 = f13 at hP hD
  refine lv_aload_n hx hb d_Model_code_55 rfl (lv_at hl 1 rfl) ?_
  refine lv_dup hx hb d_Model_code_56 rfl ?_
  refine va_get (D := D) (ci := 8) (v := .int 1) (C := "TaleMachineModel") (T := F_Model) (N := 31) hx hb hts in_Model hown hK hP 0 rfl rfl 2 (by decide) (hts _ k_14) (fun _ h9 => h9) rfl d_Model_code_57 ?_
  refine lv_iconst (v := 1) hx hb d_Model_code_60 (by decide) ?_
  refine lv_iadd hx hb d_Model_code_61 ?_
  refine lv_topi (fun z14 hz14 => ?_)
  obtain rfl : z14 = 2 := hz14.trans (by decide)
  refine va_put (D := D) (ci := 8) (v := .int 2) (ty := .int) (C := "TaleMachineModel") (T := F_Model) (N := 31) hx hb hts in_Model t_Model t_Model_ok n_Model hown hK hP hD hS 0 rfl rfl 2 (by decide) (hts _ k_14) (fun _ h9 => h9) rfl (by decide +kernel) rfl rfl (Nat.le_of_ble_eq_true rfl) d_Model_code_62 (fun H locs hP hD hS => ?_)
  have hP : va_P D cL [(h, .inr (8, [.int 0, .ref m_bytes, .int 2, .ref m_w, .int 0, .int 0, .ref m_saved, .int 0, .ref m_line, .ref m_met, .ref m_waiting, .ref m_nextParent, .int 0, .ref m_kind, .ref m_number, .int 0, .ref m_begin, .ref m_table, .ref m_handlers, .ref m_base, .ref m_locals, .ref m_self, .ref m_found, .ref m_place, .ref m_next, .int 0, .ref m_saidKind, .ref m_saidNumber, .int 0, .int 0, .int (-1)])), (m_bytes, .inl (cI, 300, .inl f13))] H := hP
  have hD : va_D A [(h, .inr (8, [.int 0, .ref m_bytes, .int 2, .ref m_w, .int 0, .int 0, .ref m_saved, .int 0, .ref m_line, .ref m_met, .ref m_waiting, .ref m_nextParent, .int 0, .ref m_kind, .ref m_number, .int 0, .ref m_begin, .ref m_table, .ref m_handlers, .ref m_base, .ref m_locals, .ref m_self, .ref m_found, .ref m_place, .ref m_next, .int 0, .ref m_saidKind, .ref m_saidNumber, .int 0, .int 0, .int (-1)])), (m_bytes, .inl (cI, 300, .inl f13))] := hD
  refine lv_iinc (v := 0) (lv' := [(3, .int 0), (0, .ref h), (1, .int wd), (2, .int 3)]) hx hb d_Model_code_65 hl (k := 0) rfl (by decide) (by decide) rfl (fun ls hl => ?_)
  refine lv_goto hx hb d_Model_code_68 (tgt := 32) (by decide) ?_
  refine lv_iload_n hx hb d_Model_code_32 rfl (lv_at hl 0 rfl) ?_
  refine lv_if_lt hx hb d_Model_code_33 (tgt := 71) (by decide) (fun hz => absurd hz (by decide)) (fun _ => ?_)
  refine lv_aload_n hx hb d_Model_code_36 rfl (lv_at hl 1 rfl) ?_
  refine va_get (D := D) (ci := 8) (v := .ref m_bytes) (C := "TaleMachineModel") (T := F_Model) (N := 31) hx hb hts in_Model hown hK hP 0 rfl rfl 1 (by decide) (hts _ k_15) (fun _ h9 => h9) rfl d_Model_code_37 ?_
  refine lv_aload_n hx hb d_Model_code_40 rfl (lv_at hl 1 rfl) ?_
  refine va_get (D := D) (ci := 8) (v := .int 2) (C := "TaleMachineModel") (T := F_Model) (N := 31) hx hb hts in_Model hown hK hP 0 rfl rfl 2 (by decide) (hts _ k_14) (fun _ h9 => h9) rfl d_Model_code_41 ?_
  refine lv_iload_n hx hb d_Model_code_44 rfl (lv_at hl 2 rfl) ?_
  refine lv_bipush (v := 8) hx hb d_Model_code_45 (by decide) ?_
  refine lv_iload_n hx hb d_Model_code_47 rfl (lv_at hl 0 rfl) ?_
  refine lv_imul hx hb d_Model_code_48 ?_
  refine lv_topi (fun z15 hz15 => ?_)
  obtain rfl : z15 = 0 := hz15.trans (by decide)
  refine lv_ishr hx hb d_Model_code_49 ?_
  refine lv_topi (fun z16 hz16 => ?_)
  refine lv_sipush (v := 255) hx hb d_Model_code_50 (by decide) ?_
  refine lv_iand hx hb d_Model_code_53 ?_
  refine lv_topi (fun z17 hz17 => ?_)
  refine va_iast hx hb hK hP hD hS 1 0 rfl rfl (i := 2) (x := z17) (in_c (by decide)) d_Model_code_54 (fun H locs hP hD hS => ?_)
  have hP : va_P D cL [(h, .inr (8, [.int 0, .ref m_bytes, .int 2, .ref m_w, .int 0, .int 0, .ref m_saved, .int 0, .ref m_line, .ref m_met, .ref m_waiting, .ref m_nextParent, .int 0, .ref m_kind, .ref m_number, .int 0, .ref m_begin, .ref m_table, .ref m_handlers, .ref m_base, .ref m_locals, .ref m_self, .ref m_found, .ref m_place, .ref m_next, .int 0, .ref m_saidKind, .ref m_saidNumber, .int 0, .int 0, .int (-1)])), (m_bytes, .inl (cI, 300, .inl (upd f13 (2 : Int32).toNatClampNeg z17)))] H := hP
  have hD : va_D A [(h, .inr (8, [.int 0, .ref m_bytes, .int 2, .ref m_w, .int 0, .int 0, .ref m_saved, .int 0, .ref m_line, .ref m_met, .ref m_waiting, .ref m_nextParent, .int 0, .ref m_kind, .ref m_number, .int 0, .ref m_begin, .ref m_table, .ref m_handlers, .ref m_base, .ref m_locals, .ref m_self, .ref m_found, .ref m_place, .ref m_next, .int 0, .ref m_saidKind, .ref m_saidNumber, .int 0, .int 0, .int (-1)])), (m_bytes, .inl (cI, 300, .inl (upd f13 (2 : Int32).toNatClampNeg z17)))] := hD
  generalize hff18 : upd f13 (2 : Int32).toNatClampNeg z17 = f18 at hP hD
  refine lv_aload_n hx hb d_Model_code_55 rfl (lv_at hl 1 rfl) ?_
  refine lv_dup hx hb d_Model_code_56 rfl ?_
  refine va_get (D := D) (ci := 8) (v := .int 2) (C := "TaleMachineModel") (T := F_Model) (N := 31) hx hb hts in_Model hown hK hP 0 rfl rfl 2 (by decide) (hts _ k_14) (fun _ h9 => h9) rfl d_Model_code_57 ?_
  refine lv_iconst (v := 1) hx hb d_Model_code_60 (by decide) ?_
  refine lv_iadd hx hb d_Model_code_61 ?_
  refine lv_topi (fun z19 hz19 => ?_)
  obtain rfl : z19 = 3 := hz19.trans (by decide)
  refine va_put (D := D) (ci := 8) (v := .int 3) (ty := .int) (C := "TaleMachineModel") (T := F_Model) (N := 31) hx hb hts in_Model t_Model t_Model_ok n_Model hown hK hP hD hS 0 rfl rfl 2 (by decide) (hts _ k_14) (fun _ h9 => h9) rfl (by decide +kernel) rfl rfl (Nat.le_of_ble_eq_true rfl) d_Model_code_62 (fun H locs hP hD hS => ?_)
  have hP : va_P D cL [(h, .inr (8, [.int 0, .ref m_bytes, .int 3, .ref m_w, .int 0, .int 0, .ref m_saved, .int 0, .ref m_line, .ref m_met, .ref m_waiting, .ref m_nextParent, .int 0, .ref m_kind, .ref m_number, .int 0, .ref m_begin, .ref m_table, .ref m_handlers, .ref m_base, .ref m_locals, .ref m_self, .ref m_found, .ref m_place, .ref m_next, .int 0, .ref m_saidKind, .ref m_saidNumber, .int 0, .int 0, .int (-1)])), (m_bytes, .inl (cI, 300, .inl f18))] H := hP
  have hD : va_D A [(h, .inr (8, [.int 0, .ref m_bytes, .int 3, .ref m_w, .int 0, .int 0, .ref m_saved, .int 0, .ref m_line, .ref m_met, .ref m_waiting, .ref m_nextParent, .int 0, .ref m_kind, .ref m_number, .int 0, .ref m_begin, .ref m_table, .ref m_handlers, .ref m_base, .ref m_locals, .ref m_self, .ref m_found, .ref m_place, .ref m_next, .int 0, .ref m_saidKind, .ref m_saidNumber, .int 0, .int 0, .int (-1)])), (m_bytes, .inl (cI, 300, .inl f18))] := hD
  refine lv_iinc (v := (-1)) (lv' := [(3, .int (-1)), (0, .ref h), (1, .int wd), (2, .int 3)]) hx hb d_Model_code_65 hl (k := 0) rfl (by decide) (by decide) rfl (fun ls hl => ?_)
  refine lv_goto hx hb d_Model_code_68 (tgt := 32) (by decide) ?_
  refine lv_iload_n hx hb d_Model_code_32 rfl (lv_at hl 0 rfl) ?_
  refine lv_if_lt hx hb d_Model_code_33 (tgt := 71) (by decide) (fun _ => ?_) (fun hz => absurd (by decide) hz)
  refine lv_iconst (v := 1) hx hb d_Model_code_71 (by decide) ?_
  exact end_z hx hb hr hlocks hS (u := ()) (r := 1) (at_end (hP.sub (ws' := []) [] rfl) (hD.sub (ws' := []) [] (by decide) rfl)) (rfl) (by decide) (Nat.le_of_ble_eq_true rfl) (Nat.le_of_ble_eq_true rfl) d_Model_code_72

set_option maxHeartbeats 4000000 in
set_option maxRecDepth 100000 in
theorem c_Model_code_4 (l : Launch) (D : va_G) (cI cZ cJ : ClassId) (h m_bytes m_w m_saved m_line m_met m_waiting m_nextParent m_kind m_number m_begin m_table m_handlers m_base m_locals m_self m_found m_place m_next m_saidKind m_saidNumber : Nat) (wd : Int32) (sz : Nat)  : Met l y_Model_code (.code y_Model_code prog_10_method_16_code 4 (some .boolean) :: AW) ({ frames := 1, cells := 0, slots := 0, locals := 22 }) (va_Pc [.ref h, .int wd, .int 4] (pre_ D [(h, .inr (8, [.int 0, .ref m_bytes, .int 0, .ref m_w, .int 0, .int 0, .ref m_saved, .int 0, .ref m_line, .ref m_met, .ref m_waiting, .ref m_nextParent, .int 0, .ref m_kind, .ref m_number, .int 0, .ref m_begin, .ref m_table, .ref m_handlers, .ref m_base, .ref m_locals, .ref m_self, .ref m_found, .ref m_place, .ref m_next, .int 0, .ref m_saidKind, .ref m_saidNumber, .int 0, .int 0, .int (-1)])), (m_bytes, .inl (cI, 300, .inl (fun _ => 0)))] [(cI, .int), (cZ, .boolean), (cJ, .long)] sz)) (va_Qi (fun (r : Int32) (u : Unit) => r = 1) (fun _ t => post_ D (va_A [(h, .inr (8, [.int 0, .ref m_bytes, .int 0, .ref m_w, .int 0, .int 0, .ref m_saved, .int 0, .ref m_line, .ref m_met, .ref m_waiting, .ref m_nextParent, .int 0, .ref m_kind, .ref m_number, .int 0, .ref m_begin, .ref m_table, .ref m_handlers, .ref m_base, .ref m_locals, .ref m_self, .ref m_found, .ref m_place, .ref m_next, .int 0, .ref m_saidKind, .ref m_saidNumber, .int 0, .int 0, .int (-1)])), (m_bytes, .inl (cI, 300, .inl (fun _ => 0)))] sz) [] t) (va_A [(h, .inr (8, [.int 0, .ref m_bytes, .int 0, .ref m_w, .int 0, .int 0, .ref m_saved, .int 0, .ref m_line, .ref m_met, .ref m_waiting, .ref m_nextParent, .int 0, .ref m_kind, .ref m_number, .int 0, .ref m_begin, .ref m_table, .ref m_handlers, .ref m_base, .ref m_locals, .ref m_self, .ref m_found, .ref m_place, .ref m_next, .int 0, .ref m_saidKind, .ref m_saidNumber, .int 0, .int 0, .int (-1)])), (m_bytes, .inl (cI, 300, .inl (fun _ => 0)))] sz)) 0 0 (va_A [(h, .inr (8, [.int 0, .ref m_bytes, .int 0, .ref m_w, .int 0, .int 0, .ref m_saved, .int 0, .ref m_line, .ref m_met, .ref m_waiting, .ref m_nextParent, .int 0, .ref m_kind, .ref m_number, .int 0, .ref m_begin, .ref m_table, .ref m_handlers, .ref m_base, .ref m_locals, .ref m_self, .ref m_found, .ref m_place, .ref m_next, .int 0, .ref m_saidKind, .ref m_saidNumber, .int 0, .int 0, .int (-1)])), (m_bytes, .inl (cI, 300, .inl (fun _ => 0)))] sz) := by
  refine Met.ofW (cc := prog_10_method_16_code) (maxL := 4) (ret := (some .boolean)) (by decide) rfl ?_
  intro p e s m args below meth c s₁ B hml hv
  obtain ⟨rfl, rfl, hP, hK, hD0, hT⟩ := hv
  have hx := B.exec
  have hb := B.bytes
  have hr := B.returns
  have hts0 := atoms_spec (ws := .code y_Model_code prog_10_method_16_code 4 (some .boolean) :: AW) B.pre
  have hts : ∀ w ∈ AW, w.before [.ref h, .int wd, .int 4].toArray s = true := fun w h => hts0 w (List.mem_cons_of_mem _ h)
  have hown : s.vm.findClass "TaleMachineModel" = some m.cls := findClass_of_methodNamed B.named
  have hlocks := B.notSynchronized
  have hD := hD0.self (sz := s.heap.size)
  generalize hAe : va_A [(h, .inr (8, [.int 0, .ref m_bytes, .int 0, .ref m_w, .int 0, .int 0, .ref m_saved, .int 0, .ref m_line, .ref m_met, .ref m_waiting, .ref m_nextParent, .int 0, .ref m_kind, .ref m_number, .int 0, .ref m_begin, .ref m_table, .ref m_handlers, .ref m_base, .ref m_locals, .ref m_self, .ref m_found, .ref m_place, .ref m_next, .int 0, .ref m_saidKind, .ref m_saidNumber, .int 0, .int 0, .int (-1)])), (m_bytes, .inl (cI, 300, .inl (fun _ => 0)))] s.heap.size = A at hD ⊢
  have hA : ∀ q : Nat, s.heap.size ≤ q → A q := fun q h => by rw [← hAe]; exact Or.inr h
  have hS : va_S A s.heap s.heap [] := va_S.rf
  have hl := lv_entry ([.ref h, .int wd, .int 4]) (n := 4) (Nat.le_of_ble_eq_true rfl)
  rw [lg_entry_eq]
  generalize (lg_sl ([.ref h, .int wd, .int 4]) ++ List.replicate (4 - (lg_sl ([.ref h, .int wd, .int 4])).length) Slot.unset).toArray = ls at hl ⊢
  have hl : lv_has ls 4 [(0, .ref h), (1, .int wd), (2, .int 4)] := hl
  refine lv_aload_n hx hb d_Model_code_0 rfl (lv_at hl 0 rfl) ?_
  refine lv_iconst (v := 0) hx hb d_Model_code_1 (by decide) ?_
  refine va_put (D := D) (ci := 8) (v := .int 0) (ty := .int) (C := "TaleMachineModel") (T := F_Model) (N := 31) hx hb hts in_Model t_Model t_Model_ok n_Model hown hK hP hD hS 0 rfl rfl 0 (by decide) (hts _ k_0) (fun _ h9 => h9) rfl (by decide +kernel) rfl rfl (Nat.le_of_ble_eq_true rfl) d_Model_code_2 (fun H locs hP hD hS => ?_)
  have hP : va_P D cL [(h, .inr (8, [.int 0, .ref m_bytes, .int 0, .ref m_w, .int 0, .int 0, .ref m_saved, .int 0, .ref m_line, .ref m_met, .ref m_waiting, .ref m_nextParent, .int 0, .ref m_kind, .ref m_number, .int 0, .ref m_begin, .ref m_table, .ref m_handlers, .ref m_base, .ref m_locals, .ref m_self, .ref m_found, .ref m_place, .ref m_next, .int 0, .ref m_saidKind, .ref m_saidNumber, .int 0, .int 0, .int (-1)])), (m_bytes, .inl (cI, 300, .inl (fun _ => 0)))] H := hP
  have hD : va_D A [(h, .inr (8, [.int 0, .ref m_bytes, .int 0, .ref m_w, .int 0, .int 0, .ref m_saved, .int 0, .ref m_line, .ref m_met, .ref m_waiting, .ref m_nextParent, .int 0, .ref m_kind, .ref m_number, .int 0, .ref m_begin, .ref m_table, .ref m_handlers, .ref m_base, .ref m_locals, .ref m_self, .ref m_found, .ref m_place, .ref m_next, .int 0, .ref m_saidKind, .ref m_saidNumber, .int 0, .int 0, .int (-1)])), (m_bytes, .inl (cI, 300, .inl (fun _ => 0)))] := hD
  refine lv_iload_n hx hb d_Model_code_5 rfl (lv_at hl 2 rfl) ?_
  refine lv_iconst (v := 1) hx hb d_Model_code_6 (by decide) ?_
  refine lv_iconst (v := 4) hx hb d_Model_code_7 (by decide) ?_
  refine mv_i (va_runS (As := [.int 4, .int 1, .int 4]) (rest := []) ⟨hx, hb, hml, hown, hts⟩ (c_Model_outside l D cI cZ cJ 4 1 4 _ ) (va_cwS 3 hts (gInS k_2 k_3 k_4 k_1) rfl rfl rfl (by decide +kernel) ⟨Nat.le_of_ble_eq_true rfl, Nat.le_of_ble_eq_true rfl⟩) (pre_S (hP.sub [] rfl) (hK.sub [0, 1, 2] rfl) (hD.sub [] (by decide) rfl) hT) rfl rfl hl.1 rfl (lv_room (Nat.le_of_ble_eq_true rfl)) d_Model_code_8 ⟨Nat.le_of_ble_eq_true rfl, Nat.le_of_ble_eq_true rfl⟩) hP hD hS hA [] [0, 1] rfl rfl (by decide) (by decide) (wr := [(h, .inr (8, [.int 0, .ref m_bytes, .int 0, .ref m_w, .int 0, .int 0, .ref m_saved, .int 0, .ref m_line, .ref m_met, .ref m_waiting, .ref m_nextParent, .int 0, .ref m_kind, .ref m_number, .int 0, .ref m_begin, .ref m_table, .ref m_handlers, .ref m_base, .ref m_locals, .ref m_self, .ref m_found, .ref m_place, .ref m_next, .int 0, .ref m_saidKind, .ref m_saidNumber, .int 0, .int 0, .int (-1)])), (m_bytes, .inl (cI, 300, .inl (fun _ => 0)))]) (wn := fun _ => []) (fun _ _ h9 => h9) (fun r1 _ H locs hp2 hP hD hS => ?_)
  have hP : va_P D cL [(h, .inr (8, [.int 0, .ref m_bytes, .int 0, .ref m_w, .int 0, .int 0, .ref m_saved, .int 0, .ref m_line, .ref m_met, .ref m_waiting, .ref m_nextParent, .int 0, .ref m_kind, .ref m_number, .int 0, .ref m_begin, .ref m_table, .ref m_handlers, .ref m_base, .ref m_locals, .ref m_self, .ref m_found, .ref m_place, .ref m_next, .int 0, .ref m_saidKind, .ref m_saidNumber, .int 0, .int 0, .int (-1)])), (m_bytes, .inl (cI, 300, .inl (fun _ => 0)))] H := hP
  have hD : va_D A [(h, .inr (8, [.int 0, .ref m_bytes, .int 0, .ref m_w, .int 0, .int 0, .ref m_saved, .int 0, .ref m_line, .ref m_met, .ref m_waiting, .ref m_nextParent, .int 0, .ref m_kind, .ref m_number, .int 0, .ref m_begin, .ref m_table, .ref m_handlers, .ref m_base, .ref m_locals, .ref m_self, .ref m_found, .ref m_place, .ref m_next, .int 0, .ref m_saidKind, .ref m_saidNumber, .int 0, .int 0, .int (-1)])), (m_bytes, .inl (cI, 300, .inl (fun _ => 0)))] := hD
  refine lv_if_ne hx hb d_Model_code_11 (tgt := 26) (by decide) (fun hz => absurd (by rcases hp2.1 with h | h; exact h; exact absurd (hp2.2.mp h) (by decide)) hz) (fun _ => ?_)
  refine lv_aload_n hx hb d_Model_code_14 rfl (lv_at hl 0 rfl) ?_
  refine va_get (D := D) (ci := 8) (v := .int 0) (C := "TaleMachineModel") (T := F_Model) (N := 31) hx hb hts in_Model hown hK hP 0 rfl rfl 2 (by decide) (hts _ k_14) (fun _ h9 => h9) rfl d_Model_code_15 ?_
  refine lv_iload_n hx hb d_Model_code_18 rfl (lv_at hl 2 rfl) ?_
  refine lv_iadd hx hb d_Model_code_19 ?_
  refine lv_topi (fun z3 hz3 => ?_)
  obtain rfl : z3 = 4 := hz3.trans (by decide)
  refine lv_sipush (v := 300) hx hb d_Model_code_20 (by decide) ?_
  refine lv_icmp_le hx hb d_Model_code_23 (tgt := 28) (by decide) (fun _ => ?_) (fun hz => absurd (by decide) hz)
  refine lv_iload_n hx hb d_Model_code_28 rfl (lv_at hl 2 rfl) ?_
  refine lv_iconst (v := 1) hx hb d_Model_code_29 (by decide) ?_
  refine lv_isub hx hb d_Model_code_30 ?_
  refine lv_topi (fun z4 hz4 => ?_)
  obtain rfl : z4 = 3 := hz4.trans (by decide)
  refine lv_istore_n (lv' := [(3, .int 3), (0, .ref h), (1, .int wd), (2, .int 4)]) hx hb d_Model_code_31 rfl hl (by decide) rfl (fun ls hl => ?_)
  refine lv_iload_n hx hb d_Model_code_32 rfl (lv_at hl 0 rfl) ?_
  refine lv_if_lt hx hb d_Model_code_33 (tgt := 71) (by decide) (fun hz => absurd hz (by decide)) (fun _ => ?_)
  refine lv_aload_n hx hb d_Model_code_36 rfl (lv_at hl 1 rfl) ?_
  refine va_get (D := D) (ci := 8) (v := .ref m_bytes) (C := "TaleMachineModel") (T := F_Model) (N := 31) hx hb hts in_Model hown hK hP 0 rfl rfl 1 (by decide) (hts _ k_15) (fun _ h9 => h9) rfl d_Model_code_37 ?_
  refine lv_aload_n hx hb d_Model_code_40 rfl (lv_at hl 1 rfl) ?_
  refine va_get (D := D) (ci := 8) (v := .int 0) (C := "TaleMachineModel") (T := F_Model) (N := 31) hx hb hts in_Model hown hK hP 0 rfl rfl 2 (by decide) (hts _ k_14) (fun _ h9 => h9) rfl d_Model_code_41 ?_
  refine lv_iload_n hx hb d_Model_code_44 rfl (lv_at hl 2 rfl) ?_
  refine lv_bipush (v := 8) hx hb d_Model_code_45 (by decide) ?_
  refine lv_iload_n hx hb d_Model_code_47 rfl (lv_at hl 0 rfl) ?_
  refine lv_imul hx hb d_Model_code_48 ?_
  refine lv_topi (fun z5 hz5 => ?_)
  obtain rfl : z5 = 24 := hz5.trans (by decide)
  refine lv_ishr hx hb d_Model_code_49 ?_
  refine lv_topi (fun z6 hz6 => ?_)
  refine lv_sipush (v := 255) hx hb d_Model_code_50 (by decide) ?_
  refine lv_iand hx hb d_Model_code_53 ?_
  refine lv_topi (fun z7 hz7 => ?_)
  refine va_iast hx hb hK hP hD hS 1 0 rfl rfl (i := 0) (x := z7) (in_c (by decide)) d_Model_code_54 (fun H locs hP hD hS => ?_)
  have hP : va_P D cL [(h, .inr (8, [.int 0, .ref m_bytes, .int 0, .ref m_w, .int 0, .int 0, .ref m_saved, .int 0, .ref m_line, .ref m_met, .ref m_waiting, .ref m_nextParent, .int 0, .ref m_kind, .ref m_number, .int 0, .ref m_begin, .ref m_table, .ref m_handlers, .ref m_base, .ref m_locals, .ref m_self, .ref m_found, .ref m_place, .ref m_next, .int 0, .ref m_saidKind, .ref m_saidNumber, .int 0, .int 0, .int (-1)])), (m_bytes, .inl (cI, 300, .inl (upd (fun _ => 0) (0 : Int32).toNatClampNeg z7)))] H := hP
  have hD : va_D A [(h, .inr (8, [.int 0, .ref m_bytes, .int 0, .ref m_w, .int 0, .int 0, .ref m_saved, .int 0, .ref m_line, .ref m_met, .ref m_waiting, .ref m_nextParent, .int 0, .ref m_kind, .ref m_number, .int 0, .ref m_begin, .ref m_table, .ref m_handlers, .ref m_base, .ref m_locals, .ref m_self, .ref m_found, .ref m_place, .ref m_next, .int 0, .ref m_saidKind, .ref m_saidNumber, .int 0, .int 0, .int (-1)])), (m_bytes, .inl (cI, 300, .inl (upd (fun _ => 0) (0 : Int32).toNatClampNeg z7)))] := hD
  generalize hff8 : upd (fun _ => 0) (0 : Int32).toNatClampNeg z7 = f8 at hP hD
  refine lv_aload_n hx hb d_Model_code_55 rfl (lv_at hl 1 rfl) ?_
  refine lv_dup hx hb d_Model_code_56 rfl ?_
  refine va_get (D := D) (ci := 8) (v := .int 0) (C := "TaleMachineModel") (T := F_Model) (N := 31) hx hb hts in_Model hown hK hP 0 rfl rfl 2 (by decide) (hts _ k_14) (fun _ h9 => h9) rfl d_Model_code_57 ?_
  refine lv_iconst (v := 1) hx hb d_Model_code_60 (by decide) ?_
  refine lv_iadd hx hb d_Model_code_61 ?_
  refine lv_topi (fun z9 hz9 => ?_)
  obtain rfl : z9 = 1 := hz9.trans (by decide)
  refine va_put (D := D) (ci := 8) (v := .int 1) (ty := .int) (C := "TaleMachineModel") (T := F_Model) (N := 31) hx hb hts in_Model t_Model t_Model_ok n_Model hown hK hP hD hS 0 rfl rfl 2 (by decide) (hts _ k_14) (fun _ h9 => h9) rfl (by decide +kernel) rfl rfl (Nat.le_of_ble_eq_true rfl) d_Model_code_62 (fun H locs hP hD hS => ?_)
  have hP : va_P D cL [(h, .inr (8, [.int 0, .ref m_bytes, .int 1, .ref m_w, .int 0, .int 0, .ref m_saved, .int 0, .ref m_line, .ref m_met, .ref m_waiting, .ref m_nextParent, .int 0, .ref m_kind, .ref m_number, .int 0, .ref m_begin, .ref m_table, .ref m_handlers, .ref m_base, .ref m_locals, .ref m_self, .ref m_found, .ref m_place, .ref m_next, .int 0, .ref m_saidKind, .ref m_saidNumber, .int 0, .int 0, .int (-1)])), (m_bytes, .inl (cI, 300, .inl f8))] H := hP
  have hD : va_D A [(h, .inr (8, [.int 0, .ref m_bytes, .int 1, .ref m_w, .int 0, .int 0, .ref m_saved, .int 0, .ref m_line, .ref m_met, .ref m_waiting, .ref m_nextParent, .int 0, .ref m_kind, .ref m_number, .int 0, .ref m_begin, .ref m_table, .ref m_handlers, .ref m_base, .ref m_locals, .ref m_self, .ref m_found, .ref m_place, .ref m_next, .int 0, .ref m_saidKind, .ref m_saidNumber, .int 0, .int 0, .int (-1)])), (m_bytes, .inl (cI, 300, .inl f8))] := hD
  refine lv_iinc (v := 2) (lv' := [(3, .int 2), (0, .ref h), (1, .int wd), (2, .int 4)]) hx hb d_Model_code_65 hl (k := 0) rfl (by decide) (by decide) rfl (fun ls hl => ?_)
  refine lv_goto hx hb d_Model_code_68 (tgt := 32) (by decide) ?_
  refine lv_iload_n hx hb d_Model_code_32 rfl (lv_at hl 0 rfl) ?_
  refine lv_if_lt hx hb d_Model_code_33 (tgt := 71) (by decide) (fun hz => absurd hz (by decide)) (fun _ => ?_)
  refine lv_aload_n hx hb d_Model_code_36 rfl (lv_at hl 1 rfl) ?_
  refine va_get (D := D) (ci := 8) (v := .ref m_bytes) (C := "TaleMachineModel") (T := F_Model) (N := 31) hx hb hts in_Model hown hK hP 0 rfl rfl 1 (by decide) (hts _ k_15) (fun _ h9 => h9) rfl d_Model_code_37 ?_
  refine lv_aload_n hx hb d_Model_code_40 rfl (lv_at hl 1 rfl) ?_
  refine va_get (D := D) (ci := 8) (v := .int 1) (C := "TaleMachineModel") (T := F_Model) (N := 31) hx hb hts in_Model hown hK hP 0 rfl rfl 2 (by decide) (hts _ k_14) (fun _ h9 => h9) rfl d_Model_code_41 ?_
  refine lv_iload_n hx hb d_Model_code_44 rfl (lv_at hl 2 rfl) ?_
  refine lv_bipush (v := 8) hx hb d_Model_code_45 (by decide) ?_
  refine lv_iload_n hx hb d_Model_code_47 rfl (lv_at hl 0 rfl) ?_
  refine lv_imul hx hb d_Model_code_48 ?_
  refine lv_topi (fun z10 hz10 => ?_)
  obtain rfl : z10 = 16 := hz10.trans (by decide)
  refine lv_ishr hx hb d_Model_code_49 ?_
  refine lv_topi (fun z11 hz11 => ?_)
  refine lv_sipush (v := 255) hx hb d_Model_code_50 (by decide) ?_
  refine lv_iand hx hb d_Model_code_53 ?_
  refine lv_topi (fun z12 hz12 => ?_)
  refine va_iast hx hb hK hP hD hS 1 0 rfl rfl (i := 1) (x := z12) (in_c (by decide)) d_Model_code_54 (fun H locs hP hD hS => ?_)
  have hP : va_P D cL [(h, .inr (8, [.int 0, .ref m_bytes, .int 1, .ref m_w, .int 0, .int 0, .ref m_saved, .int 0, .ref m_line, .ref m_met, .ref m_waiting, .ref m_nextParent, .int 0, .ref m_kind, .ref m_number, .int 0, .ref m_begin, .ref m_table, .ref m_handlers, .ref m_base, .ref m_locals, .ref m_self, .ref m_found, .ref m_place, .ref m_next, .int 0, .ref m_saidKind, .ref m_saidNumber, .int 0, .int 0, .int (-1)])), (m_bytes, .inl (cI, 300, .inl (upd f8 (1 : Int32).toNatClampNeg z12)))] H := hP
  have hD : va_D A [(h, .inr (8, [.int 0, .ref m_bytes, .int 1, .ref m_w, .int 0, .int 0, .ref m_saved, .int 0, .ref m_line, .ref m_met, .ref m_waiting, .ref m_nextParent, .int 0, .ref m_kind, .ref m_number, .int 0, .ref m_begin, .ref m_table, .ref m_handlers, .ref m_base, .ref m_locals, .ref m_self, .ref m_found, .ref m_place, .ref m_next, .int 0, .ref m_saidKind, .ref m_saidNumber, .int 0, .int 0, .int (-1)])), (m_bytes, .inl (cI, 300, .inl (upd f8 (1 : Int32).toNatClampNeg z12)))] := hD
  generalize hff13 : upd f8 (1 : Int32).toNatClampNeg z12 = f13 at hP hD
  refine lv_aload_n hx hb d_Model_code_55 rfl (lv_at hl 1 rfl) ?_
  refine lv_dup hx hb d_Model_code_56 rfl ?_
  refine va_get (D := D) (ci := 8) (v := .int 1) (C := "TaleMachineModel") (T := F_Model) (N := 31) hx hb hts in_Model hown hK hP 0 rfl rfl 2 (by decide) (hts _ k_14) (fun _ h9 => h9) rfl d_Model_code_57 ?_
  refine lv_iconst (v := 1) hx hb d_Model_code_60 (by decide) ?_
  refine lv_iadd hx hb d_Model_code_61 ?_
  refine lv_topi (fun z14 hz14 => ?_)
  obtain rfl : z14 = 2 := hz14.trans (by decide)
  refine va_put (D := D) (ci := 8) (v := .int 2) (ty := .int) (C := "TaleMachineModel") (T := F_Model) (N := 31) hx hb hts in_Model t_Model t_Model_ok n_Model hown hK hP hD hS 0 rfl rfl 2 (by decide) (hts _ k_14) (fun _ h9 => h9) rfl (by decide +kernel) rfl rfl (Nat.le_of_ble_eq_true rfl) d_Model_code_62 (fun H locs hP hD hS => ?_)
  have hP : va_P D cL [(h, .inr (8, [.int 0, .ref m_bytes, .int 2, .ref m_w, .int 0, .int 0, .ref m_saved, .int 0, .ref m_line, .ref m_met, .ref m_waiting, .ref m_nextParent, .int 0, .ref m_kind, .ref m_number, .int 0, .ref m_begin, .ref m_table, .ref m_handlers, .ref m_base, .ref m_locals, .ref m_self, .ref m_found, .ref m_place, .ref m_next, .int 0, .ref m_saidKind, .ref m_saidNumber, .int 0, .int 0, .int (-1)])), (m_bytes, .inl (cI, 300, .inl f13))] H := hP
  have hD : va_D A [(h, .inr (8, [.int 0, .ref m_bytes, .int 2, .ref m_w, .int 0, .int 0, .ref m_saved, .int 0, .ref m_line, .ref m_met, .ref m_waiting, .ref m_nextParent, .int 0, .ref m_kind, .ref m_number, .int 0, .ref m_begin, .ref m_table, .ref m_handlers, .ref m_base, .ref m_locals, .ref m_self, .ref m_found, .ref m_place, .ref m_next, .int 0, .ref m_saidKind, .ref m_saidNumber, .int 0, .int 0, .int (-1)])), (m_bytes, .inl (cI, 300, .inl f13))] := hD
  refine lv_iinc (v := 1) (lv' := [(3, .int 1), (0, .ref h), (1, .int wd), (2, .int 4)]) hx hb d_Model_code_65 hl (k := 0) rfl (by decide) (by decide) rfl (fun ls hl => ?_)
  refine lv_goto hx hb d_Model_code_68 (tgt := 32) (by decide) ?_
  refine lv_iload_n hx hb d_Model_code_32 rfl (lv_at hl 0 rfl) ?_
  refine lv_if_lt hx hb d_Model_code_33 (tgt := 71) (by decide) (fun hz => absurd hz (by decide)) (fun _ => ?_)
  refine lv_aload_n hx hb d_Model_code_36 rfl (lv_at hl 1 rfl) ?_
  refine va_get (D := D) (ci := 8) (v := .ref m_bytes) (C := "TaleMachineModel") (T := F_Model) (N := 31) hx hb hts in_Model hown hK hP 0 rfl rfl 1 (by decide) (hts _ k_15) (fun _ h9 => h9) rfl d_Model_code_37 ?_
  refine lv_aload_n hx hb d_Model_code_40 rfl (lv_at hl 1 rfl) ?_
  refine va_get (D := D) (ci := 8) (v := .int 2) (C := "TaleMachineModel") (T := F_Model) (N := 31) hx hb hts in_Model hown hK hP 0 rfl rfl 2 (by decide) (hts _ k_14) (fun _ h9 => h9) rfl d_Model_code_41 ?_
  refine lv_iload_n hx hb d_Model_code_44 rfl (lv_at hl 2 rfl) ?_
  refine lv_bipush (v := 8) hx hb d_Model_code_45 (by decide) ?_
  refine lv_iload_n hx hb d_Model_code_47 rfl (lv_at hl 0 rfl) ?_
  refine lv_imul hx hb d_Model_code_48 ?_
  refine lv_topi (fun z15 hz15 => ?_)
  obtain rfl : z15 = 8 := hz15.trans (by decide)
  refine lv_ishr hx hb d_Model_code_49 ?_
  refine lv_topi (fun z16 hz16 => ?_)
  refine lv_sipush (v := 255) hx hb d_Model_code_50 (by decide) ?_
  refine lv_iand hx hb d_Model_code_53 ?_
  refine lv_topi (fun z17 hz17 => ?_)
  refine va_iast hx hb hK hP hD hS 1 0 rfl rfl (i := 2) (x := z17) (in_c (by decide)) d_Model_code_54 (fun H locs hP hD hS => ?_)
  have hP : va_P D cL [(h, .inr (8, [.int 0, .ref m_bytes, .int 2, .ref m_w, .int 0, .int 0, .ref m_saved, .int 0, .ref m_line, .ref m_met, .ref m_waiting, .ref m_nextParent, .int 0, .ref m_kind, .ref m_number, .int 0, .ref m_begin, .ref m_table, .ref m_handlers, .ref m_base, .ref m_locals, .ref m_self, .ref m_found, .ref m_place, .ref m_next, .int 0, .ref m_saidKind, .ref m_saidNumber, .int 0, .int 0, .int (-1)])), (m_bytes, .inl (cI, 300, .inl (upd f13 (2 : Int32).toNatClampNeg z17)))] H := hP
  have hD : va_D A [(h, .inr (8, [.int 0, .ref m_bytes, .int 2, .ref m_w, .int 0, .int 0, .ref m_saved, .int 0, .ref m_line, .ref m_met, .ref m_waiting, .ref m_nextParent, .int 0, .ref m_kind, .ref m_number, .int 0, .ref m_begin, .ref m_table, .ref m_handlers, .ref m_base, .ref m_locals, .ref m_self, .ref m_found, .ref m_place, .ref m_next, .int 0, .ref m_saidKind, .ref m_saidNumber, .int 0, .int 0, .int (-1)])), (m_bytes, .inl (cI, 300, .inl (upd f13 (2 : Int32).toNatClampNeg z17)))] := hD
  generalize hff18 : upd f13 (2 : Int32).toNatClampNeg z17 = f18 at hP hD
  refine lv_aload_n hx hb d_Model_code_55 rfl (lv_at hl 1 rfl) ?_
  refine lv_dup hx hb d_Model_code_56 rfl ?_
  refine va_get (D := D) (ci := 8) (v := .int 2) (C := "TaleMachineModel") (T := F_Model) (N := 31) hx hb hts in_Model hown hK hP 0 rfl rfl 2 (by decide) (hts _ k_14) (fun _ h9 => h9) rfl d_Model_code_57 ?_
  refine lv_iconst (v := 1) hx hb d_Model_code_60 (by decide) ?_
  refine lv_iadd hx hb d_Model_code_61 ?_
  refine lv_topi (fun z19 hz19 => ?_)
  obtain rfl : z19 = 3 := hz19.trans (by decide)
  refine va_put (D := D) (ci := 8) (v := .int 3) (ty := .int) (C := "TaleMachineModel") (T := F_Model) (N := 31) hx hb hts in_Model t_Model t_Model_ok n_Model hown hK hP hD hS 0 rfl rfl 2 (by decide) (hts _ k_14) (fun _ h9 => h9) rfl (by decide +kernel) rfl rfl (Nat.le_of_ble_eq_true rfl) d_Model_code_62 (fun H locs hP hD hS => ?_)
  have hP : va_P D cL [(h, .inr (8, [.int 0, .ref m_bytes, .int 3, .ref m_w, .int 0, .int 0, .ref m_saved, .int 0, .ref m_line, .ref m_met, .ref m_waiting, .ref m_nextParent, .int 0, .ref m_kind, .ref m_number, .int 0, .ref m_begin, .ref m_table, .ref m_handlers, .ref m_base, .ref m_locals, .ref m_self, .ref m_found, .ref m_place, .ref m_next, .int 0, .ref m_saidKind, .ref m_saidNumber, .int 0, .int 0, .int (-1)])), (m_bytes, .inl (cI, 300, .inl f18))] H := hP
  have hD : va_D A [(h, .inr (8, [.int 0, .ref m_bytes, .int 3, .ref m_w, .int 0, .int 0, .ref m_saved, .int 0, .ref m_line, .ref m_met, .ref m_waiting, .ref m_nextParent, .int 0, .ref m_kind, .ref m_number, .int 0, .ref m_begin, .ref m_table, .ref m_handlers, .ref m_base, .ref m_locals, .ref m_self, .ref m_found, .ref m_place, .ref m_next, .int 0, .ref m_saidKind, .ref m_saidNumber, .int 0, .int 0, .int (-1)])), (m_bytes, .inl (cI, 300, .inl f18))] := hD
  refine lv_iinc (v := 0) (lv' := [(3, .int 0), (0, .ref h), (1, .int wd), (2, .int 4)]) hx hb d_Model_code_65 hl (k := 0) rfl (by decide) (by decide) rfl (fun ls hl => ?_)
  refine lv_goto hx hb d_Model_code_68 (tgt := 32) (by decide) ?_
  refine lv_iload_n hx hb d_Model_code_32 rfl (lv_at hl 0 rfl) ?_
  refine lv_if_lt hx hb d_Model_code_33 (tgt := 71) (by decide) (fun hz => absurd hz (by decide)) (fun _ => ?_)
  refine lv_aload_n hx hb d_Model_code_36 rfl (lv_at hl 1 rfl) ?_
  refine va_get (D := D) (ci := 8) (v := .ref m_bytes) (C := "TaleMachineModel") (T := F_Model) (N := 31) hx hb hts in_Model hown hK hP 0 rfl rfl 1 (by decide) (hts _ k_15) (fun _ h9 => h9) rfl d_Model_code_37 ?_
  refine lv_aload_n hx hb d_Model_code_40 rfl (lv_at hl 1 rfl) ?_
  refine va_get (D := D) (ci := 8) (v := .int 3) (C := "TaleMachineModel") (T := F_Model) (N := 31) hx hb hts in_Model hown hK hP 0 rfl rfl 2 (by decide) (hts _ k_14) (fun _ h9 => h9) rfl d_Model_code_41 ?_
  refine lv_iload_n hx hb d_Model_code_44 rfl (lv_at hl 2 rfl) ?_
  refine lv_bipush (v := 8) hx hb d_Model_code_45 (by decide) ?_
  refine lv_iload_n hx hb d_Model_code_47 rfl (lv_at hl 0 rfl) ?_
  refine lv_imul hx hb d_Model_code_48 ?_
  refine lv_topi (fun z20 hz20 => ?_)
  obtain rfl : z20 = 0 := hz20.trans (by decide)
  refine lv_ishr hx hb d_Model_code_49 ?_
  refine lv_topi (fun z21 hz21 => ?_)
  refine lv_sipush (v := 255) hx hb d_Model_code_50 (by decide) ?_
  refine lv_iand hx hb d_Model_code_53 ?_
  refine lv_topi (fun z22 hz22 => ?_)
  refine va_iast hx hb hK hP hD hS 1 0 rfl rfl (i := 3) (x := z22) (in_c (by decide)) d_Model_code_54 (fun H locs hP hD hS => ?_)
  have hP : va_P D cL [(h, .inr (8, [.int 0, .ref m_bytes, .int 3, .ref m_w, .int 0, .int 0, .ref m_saved, .int 0, .ref m_line, .ref m_met, .ref m_waiting, .ref m_nextParent, .int 0, .ref m_kind, .ref m_number, .int 0, .ref m_begin, .ref m_table, .ref m_handlers, .ref m_base, .ref m_locals, .ref m_self, .ref m_found, .ref m_place, .ref m_next, .int 0, .ref m_saidKind, .ref m_saidNumber, .int 0, .int 0, .int (-1)])), (m_bytes, .inl (cI, 300, .inl (upd f18 (3 : Int32).toNatClampNeg z22)))] H := hP
  have hD : va_D A [(h, .inr (8, [.int 0, .ref m_bytes, .int 3, .ref m_w, .int 0, .int 0, .ref m_saved, .int 0, .ref m_line, .ref m_met, .ref m_waiting, .ref m_nextParent, .int 0, .ref m_kind, .ref m_number, .int 0, .ref m_begin, .ref m_table, .ref m_handlers, .ref m_base, .ref m_locals, .ref m_self, .ref m_found, .ref m_place, .ref m_next, .int 0, .ref m_saidKind, .ref m_saidNumber, .int 0, .int 0, .int (-1)])), (m_bytes, .inl (cI, 300, .inl (upd f18 (3 : Int32).toNatClampNeg z22)))] := hD
  generalize hff23 : upd f18 (3 : Int32).toNatClampNeg z22 = f23 at hP hD
  refine lv_aload_n hx hb d_Model_code_55 rfl (lv_at hl 1 rfl) ?_
  refine lv_dup hx hb d_Model_code_56 rfl ?_
  refine va_get (D := D) (ci := 8) (v := .int 3) (C := "TaleMachineModel") (T := F_Model) (N := 31) hx hb hts in_Model hown hK hP 0 rfl rfl 2 (by decide) (hts _ k_14) (fun _ h9 => h9) rfl d_Model_code_57 ?_
  refine lv_iconst (v := 1) hx hb d_Model_code_60 (by decide) ?_
  refine lv_iadd hx hb d_Model_code_61 ?_
  refine lv_topi (fun z24 hz24 => ?_)
  obtain rfl : z24 = 4 := hz24.trans (by decide)
  refine va_put (D := D) (ci := 8) (v := .int 4) (ty := .int) (C := "TaleMachineModel") (T := F_Model) (N := 31) hx hb hts in_Model t_Model t_Model_ok n_Model hown hK hP hD hS 0 rfl rfl 2 (by decide) (hts _ k_14) (fun _ h9 => h9) rfl (by decide +kernel) rfl rfl (Nat.le_of_ble_eq_true rfl) d_Model_code_62 (fun H locs hP hD hS => ?_)
  have hP : va_P D cL [(h, .inr (8, [.int 0, .ref m_bytes, .int 4, .ref m_w, .int 0, .int 0, .ref m_saved, .int 0, .ref m_line, .ref m_met, .ref m_waiting, .ref m_nextParent, .int 0, .ref m_kind, .ref m_number, .int 0, .ref m_begin, .ref m_table, .ref m_handlers, .ref m_base, .ref m_locals, .ref m_self, .ref m_found, .ref m_place, .ref m_next, .int 0, .ref m_saidKind, .ref m_saidNumber, .int 0, .int 0, .int (-1)])), (m_bytes, .inl (cI, 300, .inl f23))] H := hP
  have hD : va_D A [(h, .inr (8, [.int 0, .ref m_bytes, .int 4, .ref m_w, .int 0, .int 0, .ref m_saved, .int 0, .ref m_line, .ref m_met, .ref m_waiting, .ref m_nextParent, .int 0, .ref m_kind, .ref m_number, .int 0, .ref m_begin, .ref m_table, .ref m_handlers, .ref m_base, .ref m_locals, .ref m_self, .ref m_found, .ref m_place, .ref m_next, .int 0, .ref m_saidKind, .ref m_saidNumber, .int 0, .int 0, .int (-1)])), (m_bytes, .inl (cI, 300, .inl f23))] := hD
  refine lv_iinc (v := (-1)) (lv' := [(3, .int (-1)), (0, .ref h), (1, .int wd), (2, .int 4)]) hx hb d_Model_code_65 hl (k := 0) rfl (by decide) (by decide) rfl (fun ls hl => ?_)
  refine lv_goto hx hb d_Model_code_68 (tgt := 32) (by decide) ?_
  refine lv_iload_n hx hb d_Model_code_32 rfl (lv_at hl 0 rfl) ?_
  refine lv_if_lt hx hb d_Model_code_33 (tgt := 71) (by decide) (fun _ => ?_) (fun hz => absurd (by decide) hz)
  refine lv_iconst (v := 1) hx hb d_Model_code_71 (by decide) ?_
  exact end_z hx hb hr hlocks hS (u := ()) (r := 1) (at_end (hP.sub (ws' := []) [] rfl) (hD.sub (ws' := []) [] (by decide) rfl)) (rfl) (by decide) (Nat.le_of_ble_eq_true rfl) (Nat.le_of_ble_eq_true rfl) d_Model_code_72

set_option maxHeartbeats 4000000 in
set_option maxRecDepth 100000 in
theorem c_Model_code_0 (l : Launch) (D : va_G) (cI cZ cJ : ClassId) (h m_bytes m_w m_saved m_line m_met m_waiting m_nextParent m_kind m_number m_begin m_table m_handlers m_base m_locals m_self m_found m_place m_next m_saidKind m_saidNumber : Nat) (wd k : Int32) (sz : Nat) (hk : k < 1 ∨ 4 < k) : Met l y_Model_code (.code y_Model_code prog_10_method_16_code 4 (some .boolean) :: AW) ({ frames := 1, cells := 0, slots := 0, locals := 22 }) (va_Pc [.ref h, .int wd, .int k] (pre_ D [(h, .inr (8, [.int 0, .ref m_bytes, .int 0, .ref m_w, .int 0, .int 0, .ref m_saved, .int 0, .ref m_line, .ref m_met, .ref m_waiting, .ref m_nextParent, .int 0, .ref m_kind, .ref m_number, .int 0, .ref m_begin, .ref m_table, .ref m_handlers, .ref m_base, .ref m_locals, .ref m_self, .ref m_found, .ref m_place, .ref m_next, .int 0, .ref m_saidKind, .ref m_saidNumber, .int 0, .int 0, .int (-1)]))] [(cI, .int), (cZ, .boolean), (cJ, .long)] sz)) (va_Qi (fun (r : Int32) (u : Unit) => r = 0) (fun _ t => post_ D (va_A [(h, .inr (8, [.int 0, .ref m_bytes, .int 0, .ref m_w, .int 0, .int 0, .ref m_saved, .int 0, .ref m_line, .ref m_met, .ref m_waiting, .ref m_nextParent, .int 0, .ref m_kind, .ref m_number, .int 0, .ref m_begin, .ref m_table, .ref m_handlers, .ref m_base, .ref m_locals, .ref m_self, .ref m_found, .ref m_place, .ref m_next, .int 0, .ref m_saidKind, .ref m_saidNumber, .int 0, .int 0, .int (-1)]))] sz) [] t) (va_A [(h, .inr (8, [.int 0, .ref m_bytes, .int 0, .ref m_w, .int 0, .int 0, .ref m_saved, .int 0, .ref m_line, .ref m_met, .ref m_waiting, .ref m_nextParent, .int 0, .ref m_kind, .ref m_number, .int 0, .ref m_begin, .ref m_table, .ref m_handlers, .ref m_base, .ref m_locals, .ref m_self, .ref m_found, .ref m_place, .ref m_next, .int 0, .ref m_saidKind, .ref m_saidNumber, .int 0, .int 0, .int (-1)]))] sz)) 0 0 (va_A [(h, .inr (8, [.int 0, .ref m_bytes, .int 0, .ref m_w, .int 0, .int 0, .ref m_saved, .int 0, .ref m_line, .ref m_met, .ref m_waiting, .ref m_nextParent, .int 0, .ref m_kind, .ref m_number, .int 0, .ref m_begin, .ref m_table, .ref m_handlers, .ref m_base, .ref m_locals, .ref m_self, .ref m_found, .ref m_place, .ref m_next, .int 0, .ref m_saidKind, .ref m_saidNumber, .int 0, .int 0, .int (-1)]))] sz) := by
  refine Met.ofW (cc := prog_10_method_16_code) (maxL := 4) (ret := (some .boolean)) (by decide) rfl ?_
  intro p e s m args below meth c s₁ B hml hv
  obtain ⟨rfl, rfl, hP, hK, hD0, hT⟩ := hv
  have hx := B.exec
  have hb := B.bytes
  have hr := B.returns
  have hts0 := atoms_spec (ws := .code y_Model_code prog_10_method_16_code 4 (some .boolean) :: AW) B.pre
  have hts : ∀ w ∈ AW, w.before [.ref h, .int wd, .int k].toArray s = true := fun w h => hts0 w (List.mem_cons_of_mem _ h)
  have hown : s.vm.findClass "TaleMachineModel" = some m.cls := findClass_of_methodNamed B.named
  have hlocks := B.notSynchronized
  have hD := hD0.self (sz := s.heap.size)
  generalize hAe : va_A [(h, .inr (8, [.int 0, .ref m_bytes, .int 0, .ref m_w, .int 0, .int 0, .ref m_saved, .int 0, .ref m_line, .ref m_met, .ref m_waiting, .ref m_nextParent, .int 0, .ref m_kind, .ref m_number, .int 0, .ref m_begin, .ref m_table, .ref m_handlers, .ref m_base, .ref m_locals, .ref m_self, .ref m_found, .ref m_place, .ref m_next, .int 0, .ref m_saidKind, .ref m_saidNumber, .int 0, .int 0, .int (-1)]))] s.heap.size = A at hD ⊢
  have hA : ∀ q : Nat, s.heap.size ≤ q → A q := fun q h => by rw [← hAe]; exact Or.inr h
  have hS : va_S A s.heap s.heap [] := va_S.rf
  have hl := lv_entry ([.ref h, .int wd, .int k]) (n := 4) (Nat.le_of_ble_eq_true rfl)
  rw [lg_entry_eq]
  generalize (lg_sl ([.ref h, .int wd, .int k]) ++ List.replicate (4 - (lg_sl ([.ref h, .int wd, .int k])).length) Slot.unset).toArray = ls at hl ⊢
  have hl : lv_has ls 4 [(0, .ref h), (1, .int wd), (2, .int k)] := hl
  refine lv_aload_n hx hb d_Model_code_0 rfl (lv_at hl 0 rfl) ?_
  refine lv_iconst (v := 0) hx hb d_Model_code_1 (by decide) ?_
  refine va_put (D := D) (ci := 8) (v := .int 0) (ty := .int) (C := "TaleMachineModel") (T := F_Model) (N := 31) hx hb hts in_Model t_Model t_Model_ok n_Model hown hK hP hD hS 0 rfl rfl 0 (by decide) (hts _ k_0) (fun _ h9 => h9) rfl (by decide +kernel) rfl rfl (Nat.le_of_ble_eq_true rfl) d_Model_code_2 (fun H locs hP hD hS => ?_)
  have hP : va_P D cL [(h, .inr (8, [.int 0, .ref m_bytes, .int 0, .ref m_w, .int 0, .int 0, .ref m_saved, .int 0, .ref m_line, .ref m_met, .ref m_waiting, .ref m_nextParent, .int 0, .ref m_kind, .ref m_number, .int 0, .ref m_begin, .ref m_table, .ref m_handlers, .ref m_base, .ref m_locals, .ref m_self, .ref m_found, .ref m_place, .ref m_next, .int 0, .ref m_saidKind, .ref m_saidNumber, .int 0, .int 0, .int (-1)]))] H := hP
  have hD : va_D A [(h, .inr (8, [.int 0, .ref m_bytes, .int 0, .ref m_w, .int 0, .int 0, .ref m_saved, .int 0, .ref m_line, .ref m_met, .ref m_waiting, .ref m_nextParent, .int 0, .ref m_kind, .ref m_number, .int 0, .ref m_begin, .ref m_table, .ref m_handlers, .ref m_base, .ref m_locals, .ref m_self, .ref m_found, .ref m_place, .ref m_next, .int 0, .ref m_saidKind, .ref m_saidNumber, .int 0, .int 0, .int (-1)]))] := hD
  refine lv_iload_n hx hb d_Model_code_5 rfl (lv_at hl 2 rfl) ?_
  refine lv_iconst (v := 1) hx hb d_Model_code_6 (by decide) ?_
  refine lv_iconst (v := 4) hx hb d_Model_code_7 (by decide) ?_
  refine mv_i (va_runS (As := [.int k, .int 1, .int 4]) (rest := []) ⟨hx, hb, hml, hown, hts⟩ (c_Model_outside l D cI cZ cJ k 1 4 _ ) (va_cwS 3 hts (gInS k_2 k_3 k_4 k_1) rfl rfl rfl (by decide +kernel) ⟨Nat.le_of_ble_eq_true rfl, Nat.le_of_ble_eq_true rfl⟩) (pre_S (hP.sub [] rfl) (hK.sub [0, 1, 2] rfl) (hD.sub [] (by decide) rfl) hT) rfl rfl hl.1 rfl (lv_room (Nat.le_of_ble_eq_true rfl)) d_Model_code_8 ⟨Nat.le_of_ble_eq_true rfl, Nat.le_of_ble_eq_true rfl⟩) hP hD hS hA [] [0] rfl rfl (by decide) (by decide) (wr := [(h, .inr (8, [.int 0, .ref m_bytes, .int 0, .ref m_w, .int 0, .int 0, .ref m_saved, .int 0, .ref m_line, .ref m_met, .ref m_waiting, .ref m_nextParent, .int 0, .ref m_kind, .ref m_number, .int 0, .ref m_begin, .ref m_table, .ref m_handlers, .ref m_base, .ref m_locals, .ref m_self, .ref m_found, .ref m_place, .ref m_next, .int 0, .ref m_saidKind, .ref m_saidNumber, .int 0, .int 0, .int (-1)]))]) (wn := fun _ => []) (fun _ _ h9 => h9) (fun r1 _ H locs hp2 hP hD hS => ?_)
  have hP : va_P D cL [(h, .inr (8, [.int 0, .ref m_bytes, .int 0, .ref m_w, .int 0, .int 0, .ref m_saved, .int 0, .ref m_line, .ref m_met, .ref m_waiting, .ref m_nextParent, .int 0, .ref m_kind, .ref m_number, .int 0, .ref m_begin, .ref m_table, .ref m_handlers, .ref m_base, .ref m_locals, .ref m_self, .ref m_found, .ref m_place, .ref m_next, .int 0, .ref m_saidKind, .ref m_saidNumber, .int 0, .int 0, .int (-1)]))] H := hP
  have hD : va_D A [(h, .inr (8, [.int 0, .ref m_bytes, .int 0, .ref m_w, .int 0, .int 0, .ref m_saved, .int 0, .ref m_line, .ref m_met, .ref m_waiting, .ref m_nextParent, .int 0, .ref m_kind, .ref m_number, .int 0, .ref m_begin, .ref m_table, .ref m_handlers, .ref m_base, .ref m_locals, .ref m_self, .ref m_found, .ref m_place, .ref m_next, .int 0, .ref m_saidKind, .ref m_saidNumber, .int 0, .int 0, .int (-1)]))] := hD
  refine lv_if_ne hx hb d_Model_code_11 (tgt := 26) (by decide) (fun _ => ?_) (fun hz => absurd hz (by rw [hp2.2.mpr hk]; decide))
  refine lv_iconst (v := 0) hx hb d_Model_code_26 (by decide) ?_
  exact end_z hx hb hr hlocks hS (u := ()) (r := 0) (at_end (hP.sub (ws' := []) [] rfl) (hD.sub (ws' := []) [] (by decide) rfl)) (rfl) (by decide) (Nat.le_of_ble_eq_true rfl) (Nat.le_of_ble_eq_true rfl) d_Model_code_27
