set_option maxHeartbeats 4000000 in
set_option maxRecDepth 100000 in
theorem g_taken (l : Launch) (D : va_G) (cI cZ cJ : ClassId) (h m_bytes m_w m_saved m_line m_met m_waiting m_nextParent m_kind m_number m_begin m_table m_handlers m_base m_locals m_self m_found m_place m_next m_saidKind m_saidNumber : Nat) (kc rk rn en : Int32) (sz_ fx po le he de sd : Nat) (bb lo_ : Nat) (fba flo : Nat → Int32) (sz : Nat) (hd : 1 ≤ de) (hd8 : de ≤ 8) (e1 : fba (de - 1) = nI bb) (e2 : flo (de - 1) = nI lo_) (hbl : bb + lo_ ≤ he) (hh : he ≤ 40) : Met l y_Model_taken (.code y_Model_taken prog_10_method_30_code 1 (some .int) :: AW) ({ frames := 0, cells := 0, slots := 0, locals := 0 }) (va_Pc [.ref h] (pre_ D [(h, .inr (8, [.int kc, .ref m_bytes, .int (nI sz_), .ref m_w, .int (nI fx), .int (nI po), .ref m_saved, .int (nI le), .ref m_line, .ref m_met, .ref m_waiting, .ref m_nextParent, .int (nI he), .ref m_kind, .ref m_number, .int (nI de), .ref m_begin, .ref m_table, .ref m_handlers, .ref m_base, .ref m_locals, .ref m_self, .ref m_found, .ref m_place, .ref m_next, .int (nI sd), .ref m_saidKind, .ref m_saidNumber, .int rk, .int rn, .int en])), (m_base, .inl (cI, 8, .inl fba)), (m_locals, .inl (cI, 8, .inl flo))] [(cI, .int), (cZ, .boolean), (cJ, .long)] sz)) (va_Qi (fun (r : Int32) (u : Unit) => r = nI (he - bb - lo_)) (fun _ t => post_ D (va_A [(h, .inr (8, [.int kc, .ref m_bytes, .int (nI sz_), .ref m_w, .int (nI fx), .int (nI po), .ref m_saved, .int (nI le), .ref m_line, .ref m_met, .ref m_waiting, .ref m_nextParent, .int (nI he), .ref m_kind, .ref m_number, .int (nI de), .ref m_begin, .ref m_table, .ref m_handlers, .ref m_base, .ref m_locals, .ref m_self, .ref m_found, .ref m_place, .ref m_next, .int (nI sd), .ref m_saidKind, .ref m_saidNumber, .int rk, .int rn, .int en])), (m_base, .inl (cI, 8, .inl fba)), (m_locals, .inl (cI, 8, .inl flo))] sz) [(h, .inr (8, [.int kc, .ref m_bytes, .int (nI sz_), .ref m_w, .int (nI fx), .int (nI po), .ref m_saved, .int (nI le), .ref m_line, .ref m_met, .ref m_waiting, .ref m_nextParent, .int (nI he), .ref m_kind, .ref m_number, .int (nI de), .ref m_begin, .ref m_table, .ref m_handlers, .ref m_base, .ref m_locals, .ref m_self, .ref m_found, .ref m_place, .ref m_next, .int (nI sd), .ref m_saidKind, .ref m_saidNumber, .int rk, .int rn, .int en])), (m_base, .inl (cI, 8, .inl fba)), (m_locals, .inl (cI, 8, .inl flo))] t) (va_A [(h, .inr (8, [.int kc, .ref m_bytes, .int (nI sz_), .ref m_w, .int (nI fx), .int (nI po), .ref m_saved, .int (nI le), .ref m_line, .ref m_met, .ref m_waiting, .ref m_nextParent, .int (nI he), .ref m_kind, .ref m_number, .int (nI de), .ref m_begin, .ref m_table, .ref m_handlers, .ref m_base, .ref m_locals, .ref m_self, .ref m_found, .ref m_place, .ref m_next, .int (nI sd), .ref m_saidKind, .ref m_saidNumber, .int rk, .int rn, .int en])), (m_base, .inl (cI, 8, .inl fba)), (m_locals, .inl (cI, 8, .inl flo))] sz)) 0 0 (va_A [(h, .inr (8, [.int kc, .ref m_bytes, .int (nI sz_), .ref m_w, .int (nI fx), .int (nI po), .ref m_saved, .int (nI le), .ref m_line, .ref m_met, .ref m_waiting, .ref m_nextParent, .int (nI he), .ref m_kind, .ref m_number, .int (nI de), .ref m_begin, .ref m_table, .ref m_handlers, .ref m_base, .ref m_locals, .ref m_self, .ref m_found, .ref m_place, .ref m_next, .int (nI sd), .ref m_saidKind, .ref m_saidNumber, .int rk, .int rn, .int en])), (m_base, .inl (cI, 8, .inl fba)), (m_locals, .inl (cI, 8, .inl flo))] sz) := by
  refine Met.ofW (cc := prog_10_method_30_code) (maxL := 1) (ret := (some .int)) (by decide) rfl ?_
  intro p e s m args below meth c s₁ B hml hv
  obtain ⟨rfl, rfl, hP, hK, hD0, hT⟩ := hv
  have hx := B.exec
  have hb := B.bytes
  have hr := B.returns
  have hts0 := atoms_spec (ws := .code y_Model_taken prog_10_method_30_code 1 (some .int) :: AW) B.pre
  have hts : ∀ w ∈ AW, w.before [.ref h].toArray s = true := fun w h => hts0 w (List.mem_cons_of_mem _ h)
  have hown : s.vm.findClass "TaleMachineModel" = some m.cls := findClass_of_methodNamed B.named
  have hlocks := B.notSynchronized
  have hD := hD0.self (sz := s.heap.size)
  generalize hAe : va_A [(h, .inr (8, [.int kc, .ref m_bytes, .int (nI sz_), .ref m_w, .int (nI fx), .int (nI po), .ref m_saved, .int (nI le), .ref m_line, .ref m_met, .ref m_waiting, .ref m_nextParent, .int (nI he), .ref m_kind, .ref m_number, .int (nI de), .ref m_begin, .ref m_table, .ref m_handlers, .ref m_base, .ref m_locals, .ref m_self, .ref m_found, .ref m_place, .ref m_next, .int (nI sd), .ref m_saidKind, .ref m_saidNumber, .int rk, .int rn, .int en])), (m_base, .inl (cI, 8, .inl fba)), (m_locals, .inl (cI, 8, .inl flo))] s.heap.size = A at hD ⊢
  have hA : ∀ q : Nat, s.heap.size ≤ q → A q := fun q h => by rw [← hAe]; exact Or.inr h
  have hS : va_S A s.heap s.heap [] := va_S.rf
  have hl := lv_entry ([.ref h]) (n := 1) (Nat.le_of_ble_eq_true rfl)
  rw [lg_entry_eq]
  generalize (lg_sl ([.ref h]) ++ List.replicate (1 - (lg_sl ([.ref h])).length) Slot.unset).toArray = ls at hl ⊢
  have hl : lv_has ls 1 [(0, .ref h)] := hl
  refine lv_aload_n hx hb d_Model_taken_0 rfl (lv_at hl 0 rfl) ?_
  refine va_get (D := D) (ci := 8) (v := .int (nI he)) (C := "TaleMachineModel") (T := F_Model) (N := 31) hx hb hts in_Model hown hK hP 0 rfl rfl 12 (by decide) (hts _ k_640) (fun _ h9 => h9) rfl d_Model_taken_1 ?_
  refine lv_aload_n hx hb d_Model_taken_4 rfl (lv_at hl 0 rfl) ?_
  refine va_get (D := D) (ci := 8) (v := .ref m_base) (C := "TaleMachineModel") (T := F_Model) (N := 31) hx hb hts in_Model hown hK hP 0 rfl rfl 19 (by decide) (hts _ k_647) (fun _ h9 => h9) rfl d_Model_taken_5 ?_
  refine lv_aload_n hx hb d_Model_taken_8 rfl (lv_at hl 0 rfl) ?_
  refine va_get (D := D) (ci := 8) (v := .int (nI de)) (C := "TaleMachineModel") (T := F_Model) (N := 31) hx hb hts in_Model hown hK hP 0 rfl rfl 15 (by decide) (hts _ k_643) (fun _ h9 => h9) rfl d_Model_taken_9 ?_
  refine lv_iconst (v := 1) hx hb d_Model_taken_12 (by decide) ?_
  refine lv_isub hx hb d_Model_taken_13 ?_
  refine lv_topi (fun z1 hz1 => ?_)
  obtain rfl : z1 = nI (de - 1) := hz1.trans (pk_sub (a := de) (b := 1) (by omega))
  refine ia_ld hx hb hK hP 1 0 rfl rfl (k := de - 1) (by omega) (by first | decide | assumption) d_Model_taken_14 ?_
  refine lv_topi (fun z2 hz2 => ?_)
  obtain rfl : z2 = (nI bb) := hz2.trans (e1)
  refine lv_isub hx hb d_Model_taken_15 ?_
  refine lv_topi (fun z3 hz3 => ?_)
  obtain rfl : z3 = nI (he - bb) := hz3.trans (pk_sub (a := he) (b := bb) (by omega))
  refine lv_aload_n hx hb d_Model_taken_16 rfl (lv_at hl 0 rfl) ?_
  refine va_get (D := D) (ci := 8) (v := .ref m_locals) (C := "TaleMachineModel") (T := F_Model) (N := 31) hx hb hts in_Model hown hK hP 0 rfl rfl 20 (by decide) (hts _ k_648) (fun _ h9 => h9) rfl d_Model_taken_17 ?_
  refine lv_aload_n hx hb d_Model_taken_20 rfl (lv_at hl 0 rfl) ?_
  refine va_get (D := D) (ci := 8) (v := .int (nI de)) (C := "TaleMachineModel") (T := F_Model) (N := 31) hx hb hts in_Model hown hK hP 0 rfl rfl 15 (by decide) (hts _ k_643) (fun _ h9 => h9) rfl d_Model_taken_21 ?_
  refine lv_iconst (v := 1) hx hb d_Model_taken_24 (by decide) ?_
  refine lv_isub hx hb d_Model_taken_25 ?_
  refine lv_topi (fun z4 hz4 => ?_)
  obtain rfl : z4 = nI (de - 1) := hz4.trans (pk_sub (a := de) (b := 1) (by omega))
  refine ia_ld hx hb hK hP 2 0 rfl rfl (k := de - 1) (by omega) (by first | decide | assumption) d_Model_taken_26 ?_
  refine lv_topi (fun z5 hz5 => ?_)
  obtain rfl : z5 = (nI lo_) := hz5.trans (e2)
  refine lv_isub hx hb d_Model_taken_27 ?_
  refine lv_topi (fun z6 hz6 => ?_)
  obtain rfl : z6 = nI ((he - bb) - lo_) := hz6.trans (pk_sub (a := he - bb) (b := lo_) (by omega))
  exact end_i hx hb hr hlocks hS (u := ()) (r := (nI ((he - bb) - lo_))) (at_end (hP.sub (ws' := [(h, .inr (8, [.int kc, .ref m_bytes, .int (nI sz_), .ref m_w, .int (nI fx), .int (nI po), .ref m_saved, .int (nI le), .ref m_line, .ref m_met, .ref m_waiting, .ref m_nextParent, .int (nI he), .ref m_kind, .ref m_number, .int (nI de), .ref m_begin, .ref m_table, .ref m_handlers, .ref m_base, .ref m_locals, .ref m_self, .ref m_found, .ref m_place, .ref m_next, .int (nI sd), .ref m_saidKind, .ref m_saidNumber, .int rk, .int rn, .int en])), (m_base, .inl (cI, 8, .inl fba)), (m_locals, .inl (cI, 8, .inl flo))]) [0, 1, 2] rfl) (hD.sub (ws' := [(h, .inr (8, [.int kc, .ref m_bytes, .int (nI sz_), .ref m_w, .int (nI fx), .int (nI po), .ref m_saved, .int (nI le), .ref m_line, .ref m_met, .ref m_waiting, .ref m_nextParent, .int (nI he), .ref m_kind, .ref m_number, .int (nI de), .ref m_begin, .ref m_table, .ref m_handlers, .ref m_base, .ref m_locals, .ref m_self, .ref m_found, .ref m_place, .ref m_next, .int (nI sd), .ref m_saidKind, .ref m_saidNumber, .int rk, .int rn, .int en])), (m_base, .inl (cI, 8, .inl fba)), (m_locals, .inl (cI, 8, .inl flo))]) [0, 1, 2] (by decide) rfl)) (rfl) (Nat.le_of_ble_eq_true rfl) (Nat.le_of_ble_eq_true rfl) d_Model_taken_28

set_option maxHeartbeats 4000000 in
set_option maxRecDepth 100000 in
theorem g_lengthOf (l : Launch) (D : va_G) (cI cZ cJ : ClassId) (op_ : Int32) (sz : Nat)  : Met l y_Model_lengthOf (.code y_Model_lengthOf prog_10_method_33_code 2 (some .int) :: AW) ({ frames := 0, cells := 0, slots := 0, locals := 0 }) (va_Pc [.int op_] (pre_ D [] [(cI, .int), (cZ, .boolean), (cJ, .long)] sz)) (va_Qi (fun (r : Int32) (u : Unit) => True) (fun _ t => post_ D (va_A [] sz) [] t) (va_A [] sz)) 0 0 (va_A [] sz) := by
  refine Met.ofW (cc := prog_10_method_33_code) (maxL := 2) (ret := (some .int)) (by decide) rfl ?_
  intro p e s m args below meth c s₁ B hml hv
  obtain ⟨rfl, rfl, hP, hK, hD0, hT⟩ := hv
  have hx := B.exec
  have hb := B.bytes
  have hr := B.returns
  have hts0 := atoms_spec (ws := .code y_Model_lengthOf prog_10_method_33_code 2 (some .int) :: AW) B.pre
  have hts : ∀ w ∈ AW, w.before [.int op_].toArray s = true := fun w h => hts0 w (List.mem_cons_of_mem _ h)
  have hown : s.vm.findClass "TaleMachineModel" = some m.cls := findClass_of_methodNamed B.named
  have hlocks := B.notSynchronized
  have hD := hD0.self (sz := s.heap.size)
  generalize hAe : va_A [] s.heap.size = A at hD ⊢
  have hA : ∀ q : Nat, s.heap.size ≤ q → A q := fun q h => by rw [← hAe]; exact Or.inr h
  have hS : va_S A s.heap s.heap [] := va_S.rf
  have hl := lv_entry ([.int op_]) (n := 2) (Nat.le_of_ble_eq_true rfl)
  rw [lg_entry_eq]
  generalize (lg_sl ([.int op_]) ++ List.replicate (2 - (lg_sl ([.int op_])).length) Slot.unset).toArray = ls at hl ⊢
  have hl : lv_has ls 2 [(0, .int op_)] := hl
  refine lv_iload_n hx hb d_Model_lengthOf_0 rfl (lv_at hl 0 rfl) ?_
  refine lv_iconst (v := 2) hx hb d_Model_lengthOf_1 (by decide) ?_
  refine lv_icmp_ne hx hb d_Model_lengthOf_2 (tgt := 7) (by decide) (fun hc1 => ?_) (fun hc1 => ?_)
  · refine lv_iload_n hx hb d_Model_lengthOf_7 rfl (lv_at hl 0 rfl) ?_
    refine lv_bipush (v := 24) hx hb d_Model_lengthOf_8 (by decide) ?_
    refine lv_icmp_ne hx hb d_Model_lengthOf_10 (tgt := 15) (by decide) (fun hc2 => ?_) (fun hc2 => ?_)
    · refine lv_iload_n hx hb d_Model_lengthOf_15 rfl (lv_at hl 0 rfl) ?_
      refine lv_bipush (v := 6) hx hb d_Model_lengthOf_16 (by decide) ?_
      refine lv_icmp_eq hx hb d_Model_lengthOf_18 (tgt := 33) (by decide) (fun hc3 => ?_) (fun hc3 => ?_)
      · refine lv_iconst (v := 3) hx hb d_Model_lengthOf_33 (by decide) ?_
        exact end_i hx hb hr hlocks hS (u := ()) (r := 3) (at_end (hP.sub (ws' := []) [] rfl) (hD.sub (ws' := []) [] (by decide) rfl)) (trivial) (Nat.le_of_ble_eq_true rfl) (Nat.le_of_ble_eq_true rfl) d_Model_lengthOf_34
      · refine lv_iload_n hx hb d_Model_lengthOf_21 rfl (lv_at hl 0 rfl) ?_
        refine lv_bipush (v := 21) hx hb d_Model_lengthOf_22 (by decide) ?_
        refine lv_icmp_eq hx hb d_Model_lengthOf_24 (tgt := 33) (by decide) (fun hc4 => ?_) (fun hc4 => ?_)
        · refine lv_iconst (v := 3) hx hb d_Model_lengthOf_33 (by decide) ?_
          exact end_i hx hb hr hlocks hS (u := ()) (r := 3) (at_end (hP.sub (ws' := []) [] rfl) (hD.sub (ws' := []) [] (by decide) rfl)) (trivial) (Nat.le_of_ble_eq_true rfl) (Nat.le_of_ble_eq_true rfl) d_Model_lengthOf_34
        · refine lv_iload_n hx hb d_Model_lengthOf_27 rfl (lv_at hl 0 rfl) ?_
          refine lv_bipush (v := 23) hx hb d_Model_lengthOf_28 (by decide) ?_
          refine lv_icmp_ne hx hb d_Model_lengthOf_30 (tgt := 35) (by decide) (fun hc5 => ?_) (fun hc5 => ?_)
          · refine lv_iload_n hx hb d_Model_lengthOf_35 rfl (lv_at hl 0 rfl) ?_
            refine lv_iconst (v := 1) hx hb d_Model_lengthOf_36 (by decide) ?_
            refine lv_icmp_eq hx hb d_Model_lengthOf_37 (tgt := 99) (by decide) (fun hc6 => ?_) (fun hc6 => ?_)
            · refine lv_iconst (v := 1) hx hb d_Model_lengthOf_99 (by decide) ?_
              refine lv_goto hx hb d_Model_lengthOf_100 (tgt := 104) (by decide) ?_
              refine lv_istore_n (lv' := [(1, .int 1), (0, .int op_)]) hx hb d_Model_lengthOf_104 rfl hl (by decide) rfl (fun ls hl => ?_)
              refine lv_iload_n hx hb d_Model_lengthOf_105 rfl (lv_at hl 0 rfl) ?_
              refine lv_if_eq hx hb d_Model_lengthOf_106 (tgt := 113) (by decide) (fun hz => absurd hz (by decide)) (fun _ => ?_)
              refine lv_iconst (v := 2) hx hb d_Model_lengthOf_109 (by decide) ?_
              refine lv_goto hx hb d_Model_lengthOf_110 (tgt := 114) (by decide) ?_
              exact end_i hx hb hr hlocks hS (u := ()) (r := 2) (at_end (hP.sub (ws' := []) [] rfl) (hD.sub (ws' := []) [] (by decide) rfl)) (trivial) (Nat.le_of_ble_eq_true rfl) (Nat.le_of_ble_eq_true rfl) d_Model_lengthOf_114
            · refine lv_iload_n hx hb d_Model_lengthOf_40 rfl (lv_at hl 0 rfl) ?_
              refine lv_iconst (v := 5) hx hb d_Model_lengthOf_41 (by decide) ?_
              refine lv_icmp_eq hx hb d_Model_lengthOf_42 (tgt := 99) (by decide) (fun hc7 => ?_) (fun hc7 => ?_)
              · refine lv_iconst (v := 1) hx hb d_Model_lengthOf_99 (by decide) ?_
                refine lv_goto hx hb d_Model_lengthOf_100 (tgt := 104) (by decide) ?_
                refine lv_istore_n (lv' := [(1, .int 1), (0, .int op_)]) hx hb d_Model_lengthOf_104 rfl hl (by decide) rfl (fun ls hl => ?_)
                refine lv_iload_n hx hb d_Model_lengthOf_105 rfl (lv_at hl 0 rfl) ?_
                refine lv_if_eq hx hb d_Model_lengthOf_106 (tgt := 113) (by decide) (fun hz => absurd hz (by decide)) (fun _ => ?_)
                refine lv_iconst (v := 2) hx hb d_Model_lengthOf_109 (by decide) ?_
                refine lv_goto hx hb d_Model_lengthOf_110 (tgt := 114) (by decide) ?_
                exact end_i hx hb hr hlocks hS (u := ()) (r := 2) (at_end (hP.sub (ws' := []) [] rfl) (hD.sub (ws' := []) [] (by decide) rfl)) (trivial) (Nat.le_of_ble_eq_true rfl) (Nat.le_of_ble_eq_true rfl) d_Model_lengthOf_114
              · refine lv_iload_n hx hb d_Model_lengthOf_45 rfl (lv_at hl 0 rfl) ?_
                refine lv_bipush (v := 7) hx hb d_Model_lengthOf_46 (by decide) ?_
                refine lv_icmp_eq hx hb d_Model_lengthOf_48 (tgt := 99) (by decide) (fun hc8 => ?_) (fun hc8 => ?_)
                · refine lv_iconst (v := 1) hx hb d_Model_lengthOf_99 (by decide) ?_
                  refine lv_goto hx hb d_Model_lengthOf_100 (tgt := 104) (by decide) ?_
                  refine lv_istore_n (lv' := [(1, .int 1), (0, .int op_)]) hx hb d_Model_lengthOf_104 rfl hl (by decide) rfl (fun ls hl => ?_)
                  refine lv_iload_n hx hb d_Model_lengthOf_105 rfl (lv_at hl 0 rfl) ?_
                  refine lv_if_eq hx hb d_Model_lengthOf_106 (tgt := 113) (by decide) (fun hz => absurd hz (by decide)) (fun _ => ?_)
                  refine lv_iconst (v := 2) hx hb d_Model_lengthOf_109 (by decide) ?_
                  refine lv_goto hx hb d_Model_lengthOf_110 (tgt := 114) (by decide) ?_
                  exact end_i hx hb hr hlocks hS (u := ()) (r := 2) (at_end (hP.sub (ws' := []) [] rfl) (hD.sub (ws' := []) [] (by decide) rfl)) (trivial) (Nat.le_of_ble_eq_true rfl) (Nat.le_of_ble_eq_true rfl) d_Model_lengthOf_114
                · refine lv_iload_n hx hb d_Model_lengthOf_51 rfl (lv_at hl 0 rfl) ?_
                  refine lv_bipush (v := 8) hx hb d_Model_lengthOf_52 (by decide) ?_
                  refine lv_icmp_eq hx hb d_Model_lengthOf_54 (tgt := 99) (by decide) (fun hc9 => ?_) (fun hc9 => ?_)
                  · refine lv_iconst (v := 1) hx hb d_Model_lengthOf_99 (by decide) ?_
                    refine lv_goto hx hb d_Model_lengthOf_100 (tgt := 104) (by decide) ?_
                    refine lv_istore_n (lv' := [(1, .int 1), (0, .int op_)]) hx hb d_Model_lengthOf_104 rfl hl (by decide) rfl (fun ls hl => ?_)
                    refine lv_iload_n hx hb d_Model_lengthOf_105 rfl (lv_at hl 0 rfl) ?_
                    refine lv_if_eq hx hb d_Model_lengthOf_106 (tgt := 113) (by decide) (fun hz => absurd hz (by decide)) (fun _ => ?_)
                    refine lv_iconst (v := 2) hx hb d_Model_lengthOf_109 (by decide) ?_
                    refine lv_goto hx hb d_Model_lengthOf_110 (tgt := 114) (by decide) ?_
                    exact end_i hx hb hr hlocks hS (u := ()) (r := 2) (at_end (hP.sub (ws' := []) [] rfl) (hD.sub (ws' := []) [] (by decide) rfl)) (trivial) (Nat.le_of_ble_eq_true rfl) (Nat.le_of_ble_eq_true rfl) d_Model_lengthOf_114
                  · refine lv_iload_n hx hb d_Model_lengthOf_57 rfl (lv_at hl 0 rfl) ?_
                    refine lv_bipush (v := 19) hx hb d_Model_lengthOf_58 (by decide) ?_
                    refine lv_icmp_eq hx hb d_Model_lengthOf_60 (tgt := 99) (by decide) (fun hc10 => ?_) (fun hc10 => ?_)
                    · refine lv_iconst (v := 1) hx hb d_Model_lengthOf_99 (by decide) ?_
                      refine lv_goto hx hb d_Model_lengthOf_100 (tgt := 104) (by decide) ?_
                      refine lv_istore_n (lv' := [(1, .int 1), (0, .int op_)]) hx hb d_Model_lengthOf_104 rfl hl (by decide) rfl (fun ls hl => ?_)
                      refine lv_iload_n hx hb d_Model_lengthOf_105 rfl (lv_at hl 0 rfl) ?_
                      refine lv_if_eq hx hb d_Model_lengthOf_106 (tgt := 113) (by decide) (fun hz => absurd hz (by decide)) (fun _ => ?_)
                      refine lv_iconst (v := 2) hx hb d_Model_lengthOf_109 (by decide) ?_
                      refine lv_goto hx hb d_Model_lengthOf_110 (tgt := 114) (by decide) ?_
                      exact end_i hx hb hr hlocks hS (u := ()) (r := 2) (at_end (hP.sub (ws' := []) [] rfl) (hD.sub (ws' := []) [] (by decide) rfl)) (trivial) (Nat.le_of_ble_eq_true rfl) (Nat.le_of_ble_eq_true rfl) d_Model_lengthOf_114
                    · refine lv_iload_n hx hb d_Model_lengthOf_63 rfl (lv_at hl 0 rfl) ?_
                      refine lv_bipush (v := 20) hx hb d_Model_lengthOf_64 (by decide) ?_
                      refine lv_icmp_eq hx hb d_Model_lengthOf_66 (tgt := 99) (by decide) (fun hc11 => ?_) (fun hc11 => ?_)
                      · refine lv_iconst (v := 1) hx hb d_Model_lengthOf_99 (by decide) ?_
                        refine lv_goto hx hb d_Model_lengthOf_100 (tgt := 104) (by decide) ?_
                        refine lv_istore_n (lv' := [(1, .int 1), (0, .int op_)]) hx hb d_Model_lengthOf_104 rfl hl (by decide) rfl (fun ls hl => ?_)
                        refine lv_iload_n hx hb d_Model_lengthOf_105 rfl (lv_at hl 0 rfl) ?_
                        refine lv_if_eq hx hb d_Model_lengthOf_106 (tgt := 113) (by decide) (fun hz => absurd hz (by decide)) (fun _ => ?_)
                        refine lv_iconst (v := 2) hx hb d_Model_lengthOf_109 (by decide) ?_
                        refine lv_goto hx hb d_Model_lengthOf_110 (tgt := 114) (by decide) ?_
                        exact end_i hx hb hr hlocks hS (u := ()) (r := 2) (at_end (hP.sub (ws' := []) [] rfl) (hD.sub (ws' := []) [] (by decide) rfl)) (trivial) (Nat.le_of_ble_eq_true rfl) (Nat.le_of_ble_eq_true rfl) d_Model_lengthOf_114
                      · refine lv_iload_n hx hb d_Model_lengthOf_69 rfl (lv_at hl 0 rfl) ?_
                        refine lv_bipush (v := 22) hx hb d_Model_lengthOf_70 (by decide) ?_
                        refine lv_icmp_eq hx hb d_Model_lengthOf_72 (tgt := 99) (by decide) (fun hc12 => ?_) (fun hc12 => ?_)
                        · refine lv_iconst (v := 1) hx hb d_Model_lengthOf_99 (by decide) ?_
                          refine lv_goto hx hb d_Model_lengthOf_100 (tgt := 104) (by decide) ?_
                          refine lv_istore_n (lv' := [(1, .int 1), (0, .int op_)]) hx hb d_Model_lengthOf_104 rfl hl (by decide) rfl (fun ls hl => ?_)
                          refine lv_iload_n hx hb d_Model_lengthOf_105 rfl (lv_at hl 0 rfl) ?_
                          refine lv_if_eq hx hb d_Model_lengthOf_106 (tgt := 113) (by decide) (fun hz => absurd hz (by decide)) (fun _ => ?_)
                          refine lv_iconst (v := 2) hx hb d_Model_lengthOf_109 (by decide) ?_
                          refine lv_goto hx hb d_Model_lengthOf_110 (tgt := 114) (by decide) ?_
                          exact end_i hx hb hr hlocks hS (u := ()) (r := 2) (at_end (hP.sub (ws' := []) [] rfl) (hD.sub (ws' := []) [] (by decide) rfl)) (trivial) (Nat.le_of_ble_eq_true rfl) (Nat.le_of_ble_eq_true rfl) d_Model_lengthOf_114
                        · refine lv_iload_n hx hb d_Model_lengthOf_75 rfl (lv_at hl 0 rfl) ?_
                          refine lv_bipush (v := 28) hx hb d_Model_lengthOf_76 (by decide) ?_
                          refine lv_icmp_eq hx hb d_Model_lengthOf_78 (tgt := 99) (by decide) (fun hc13 => ?_) (fun hc13 => ?_)
                          · refine lv_iconst (v := 1) hx hb d_Model_lengthOf_99 (by decide) ?_
                            refine lv_goto hx hb d_Model_lengthOf_100 (tgt := 104) (by decide) ?_
                            refine lv_istore_n (lv' := [(1, .int 1), (0, .int op_)]) hx hb d_Model_lengthOf_104 rfl hl (by decide) rfl (fun ls hl => ?_)
                            refine lv_iload_n hx hb d_Model_lengthOf_105 rfl (lv_at hl 0 rfl) ?_
                            refine lv_if_eq hx hb d_Model_lengthOf_106 (tgt := 113) (by decide) (fun hz => absurd hz (by decide)) (fun _ => ?_)
                            refine lv_iconst (v := 2) hx hb d_Model_lengthOf_109 (by decide) ?_
                            refine lv_goto hx hb d_Model_lengthOf_110 (tgt := 114) (by decide) ?_
                            exact end_i hx hb hr hlocks hS (u := ()) (r := 2) (at_end (hP.sub (ws' := []) [] rfl) (hD.sub (ws' := []) [] (by decide) rfl)) (trivial) (Nat.le_of_ble_eq_true rfl) (Nat.le_of_ble_eq_true rfl) d_Model_lengthOf_114
                          · refine lv_iload_n hx hb d_Model_lengthOf_81 rfl (lv_at hl 0 rfl) ?_
                            refine lv_bipush (v := 29) hx hb d_Model_lengthOf_82 (by decide) ?_
                            refine lv_icmp_eq hx hb d_Model_lengthOf_84 (tgt := 99) (by decide) (fun hc14 => ?_) (fun hc14 => ?_)
                            · refine lv_iconst (v := 1) hx hb d_Model_lengthOf_99 (by decide) ?_
                              refine lv_goto hx hb d_Model_lengthOf_100 (tgt := 104) (by decide) ?_
                              refine lv_istore_n (lv' := [(1, .int 1), (0, .int op_)]) hx hb d_Model_lengthOf_104 rfl hl (by decide) rfl (fun ls hl => ?_)
                              refine lv_iload_n hx hb d_Model_lengthOf_105 rfl (lv_at hl 0 rfl) ?_
                              refine lv_if_eq hx hb d_Model_lengthOf_106 (tgt := 113) (by decide) (fun hz => absurd hz (by decide)) (fun _ => ?_)
                              refine lv_iconst (v := 2) hx hb d_Model_lengthOf_109 (by decide) ?_
                              refine lv_goto hx hb d_Model_lengthOf_110 (tgt := 114) (by decide) ?_
                              exact end_i hx hb hr hlocks hS (u := ()) (r := 2) (at_end (hP.sub (ws' := []) [] rfl) (hD.sub (ws' := []) [] (by decide) rfl)) (trivial) (Nat.le_of_ble_eq_true rfl) (Nat.le_of_ble_eq_true rfl) d_Model_lengthOf_114
                            · refine lv_iload_n hx hb d_Model_lengthOf_87 rfl (lv_at hl 0 rfl) ?_
                              refine lv_bipush (v := 33) hx hb d_Model_lengthOf_88 (by decide) ?_
                              refine lv_icmp_eq hx hb d_Model_lengthOf_90 (tgt := 99) (by decide) (fun hc15 => ?_) (fun hc15 => ?_)
                              · refine lv_iconst (v := 1) hx hb d_Model_lengthOf_99 (by decide) ?_
                                refine lv_goto hx hb d_Model_lengthOf_100 (tgt := 104) (by decide) ?_
                                refine lv_istore_n (lv' := [(1, .int 1), (0, .int op_)]) hx hb d_Model_lengthOf_104 rfl hl (by decide) rfl (fun ls hl => ?_)
                                refine lv_iload_n hx hb d_Model_lengthOf_105 rfl (lv_at hl 0 rfl) ?_
                                refine lv_if_eq hx hb d_Model_lengthOf_106 (tgt := 113) (by decide) (fun hz => absurd hz (by decide)) (fun _ => ?_)
                                refine lv_iconst (v := 2) hx hb d_Model_lengthOf_109 (by decide) ?_
                                refine lv_goto hx hb d_Model_lengthOf_110 (tgt := 114) (by decide) ?_
                                exact end_i hx hb hr hlocks hS (u := ()) (r := 2) (at_end (hP.sub (ws' := []) [] rfl) (hD.sub (ws' := []) [] (by decide) rfl)) (trivial) (Nat.le_of_ble_eq_true rfl) (Nat.le_of_ble_eq_true rfl) d_Model_lengthOf_114
                              · refine lv_iload_n hx hb d_Model_lengthOf_93 rfl (lv_at hl 0 rfl) ?_
                                refine lv_bipush (v := 34) hx hb d_Model_lengthOf_94 (by decide) ?_
                                refine lv_icmp_ne hx hb d_Model_lengthOf_96 (tgt := 103) (by decide) (fun hc16 => ?_) (fun hc16 => ?_)
                                · refine lv_iconst (v := 0) hx hb d_Model_lengthOf_103 (by decide) ?_
                                  refine lv_istore_n (lv' := [(1, .int 0), (0, .int op_)]) hx hb d_Model_lengthOf_104 rfl hl (by decide) rfl (fun ls hl => ?_)
                                  refine lv_iload_n hx hb d_Model_lengthOf_105 rfl (lv_at hl 0 rfl) ?_
                                  refine lv_if_eq hx hb d_Model_lengthOf_106 (tgt := 113) (by decide) (fun _ => ?_) (fun hz => absurd (by decide) hz)
                                  refine lv_iconst (v := 1) hx hb d_Model_lengthOf_113 (by decide) ?_
                                  exact end_i hx hb hr hlocks hS (u := ()) (r := 1) (at_end (hP.sub (ws' := []) [] rfl) (hD.sub (ws' := []) [] (by decide) rfl)) (trivial) (Nat.le_of_ble_eq_true rfl) (Nat.le_of_ble_eq_true rfl) d_Model_lengthOf_114
                                · refine lv_iconst (v := 1) hx hb d_Model_lengthOf_99 (by decide) ?_
                                  refine lv_goto hx hb d_Model_lengthOf_100 (tgt := 104) (by decide) ?_
                                  refine lv_istore_n (lv' := [(1, .int 1), (0, .int op_)]) hx hb d_Model_lengthOf_104 rfl hl (by decide) rfl (fun ls hl => ?_)
                                  refine lv_iload_n hx hb d_Model_lengthOf_105 rfl (lv_at hl 0 rfl) ?_
                                  refine lv_if_eq hx hb d_Model_lengthOf_106 (tgt := 113) (by decide) (fun hz => absurd hz (by decide)) (fun _ => ?_)
                                  refine lv_iconst (v := 2) hx hb d_Model_lengthOf_109 (by decide) ?_
                                  refine lv_goto hx hb d_Model_lengthOf_110 (tgt := 114) (by decide) ?_
                                  exact end_i hx hb hr hlocks hS (u := ()) (r := 2) (at_end (hP.sub (ws' := []) [] rfl) (hD.sub (ws' := []) [] (by decide) rfl)) (trivial) (Nat.le_of_ble_eq_true rfl) (Nat.le_of_ble_eq_true rfl) d_Model_lengthOf_114
          · refine lv_iconst (v := 3) hx hb d_Model_lengthOf_33 (by decide) ?_
            exact end_i hx hb hr hlocks hS (u := ()) (r := 3) (at_end (hP.sub (ws' := []) [] rfl) (hD.sub (ws' := []) [] (by decide) rfl)) (trivial) (Nat.le_of_ble_eq_true rfl) (Nat.le_of_ble_eq_true rfl) d_Model_lengthOf_34
    · refine lv_iconst (v := 4) hx hb d_Model_lengthOf_13 (by decide) ?_
      exact end_i hx hb hr hlocks hS (u := ()) (r := 4) (at_end (hP.sub (ws' := []) [] rfl) (hD.sub (ws' := []) [] (by decide) rfl)) (trivial) (Nat.le_of_ble_eq_true rfl) (Nat.le_of_ble_eq_true rfl) d_Model_lengthOf_14
  · refine lv_iconst (v := 5) hx hb d_Model_lengthOf_5 (by decide) ?_
    exact end_i hx hb hr hlocks hS (u := ()) (r := 5) (at_end (hP.sub (ws' := []) [] rfl) (hD.sub (ws' := []) [] (by decide) rfl)) (trivial) (Nat.le_of_ble_eq_true rfl) (Nat.le_of_ble_eq_true rfl) d_Model_lengthOf_6

set_option maxHeartbeats 4000000 in
set_option maxRecDepth 100000 in
theorem g_copy (l : Launch) (D : va_G) (cI cZ cJ : ClassId) (h m_bytes m_w m_saved m_line m_met m_waiting m_nextParent m_kind m_number m_begin m_table m_handlers m_base m_locals m_self m_found m_place m_next m_saidKind m_saidNumber : Nat) (kc rk rn en : Int32) (sz_ fx po le he de sd : Nat) (fr_ to_ : Nat) (fw : Nat → Int32) (sz : Nat) (h1 : fr_ < 6) (h2 : to_ < 6) (h3 : fr_ ≠ to_) : Met l y_Model_copy (.code y_Model_copy prog_10_method_12_code 4 none :: AW) ({ frames := 0, cells := 0, slots := 0, locals := 0 }) (va_Pc [.ref h, .int (nI fr_), .int (nI to_)] (pre_ D [(h, .inr (8, [.int kc, .ref m_bytes, .int (nI sz_), .ref m_w, .int (nI fx), .int (nI po), .ref m_saved, .int (nI le), .ref m_line, .ref m_met, .ref m_waiting, .ref m_nextParent, .int (nI he), .ref m_kind, .ref m_number, .int (nI de), .ref m_begin, .ref m_table, .ref m_handlers, .ref m_base, .ref m_locals, .ref m_self, .ref m_found, .ref m_place, .ref m_next, .int (nI sd), .ref m_saidKind, .ref m_saidNumber, .int rk, .int rn, .int en])), (m_w, .inl (cI, 5568, .inl fw))] [(cI, .int), (cZ, .boolean), (cJ, .long)] sz)) (va_Qv (fun (u : Nat → Int32) => (∀ j, j < 928 → u (928 * to_ + j) = fw (928 * fr_ + j)) ∧ ∀ j, (∀ i, i < 928 → j ≠ 928 * to_ + i) → u j = fw j) (fun u t => match u with | g2 => post_ D (va_A [(h, .inr (8, [.int kc, .ref m_bytes, .int (nI sz_), .ref m_w, .int (nI fx), .int (nI po), .ref m_saved, .int (nI le), .ref m_line, .ref m_met, .ref m_waiting, .ref m_nextParent, .int (nI he), .ref m_kind, .ref m_number, .int (nI de), .ref m_begin, .ref m_table, .ref m_handlers, .ref m_base, .ref m_locals, .ref m_self, .ref m_found, .ref m_place, .ref m_next, .int (nI sd), .ref m_saidKind, .ref m_saidNumber, .int rk, .int rn, .int en])), (m_w, .inl (cI, 5568, .inl fw))] sz) [(h, .inr (8, [.int kc, .ref m_bytes, .int (nI sz_), .ref m_w, .int (nI fx), .int (nI po), .ref m_saved, .int (nI le), .ref m_line, .ref m_met, .ref m_waiting, .ref m_nextParent, .int (nI he), .ref m_kind, .ref m_number, .int (nI de), .ref m_begin, .ref m_table, .ref m_handlers, .ref m_base, .ref m_locals, .ref m_self, .ref m_found, .ref m_place, .ref m_next, .int (nI sd), .ref m_saidKind, .ref m_saidNumber, .int rk, .int rn, .int en])), (m_w, .inl (cI, 5568, .inl g2))] t) (va_A [(h, .inr (8, [.int kc, .ref m_bytes, .int (nI sz_), .ref m_w, .int (nI fx), .int (nI po), .ref m_saved, .int (nI le), .ref m_line, .ref m_met, .ref m_waiting, .ref m_nextParent, .int (nI he), .ref m_kind, .ref m_number, .int (nI de), .ref m_begin, .ref m_table, .ref m_handlers, .ref m_base, .ref m_locals, .ref m_self, .ref m_found, .ref m_place, .ref m_next, .int (nI sd), .ref m_saidKind, .ref m_saidNumber, .int rk, .int rn, .int en])), (m_w, .inl (cI, 5568, .inl fw))] sz)) 0 0 (va_A [(h, .inr (8, [.int kc, .ref m_bytes, .int (nI sz_), .ref m_w, .int (nI fx), .int (nI po), .ref m_saved, .int (nI le), .ref m_line, .ref m_met, .ref m_waiting, .ref m_nextParent, .int (nI he), .ref m_kind, .ref m_number, .int (nI de), .ref m_begin, .ref m_table, .ref m_handlers, .ref m_base, .ref m_locals, .ref m_self, .ref m_found, .ref m_place, .ref m_next, .int (nI sd), .ref m_saidKind, .ref m_saidNumber, .int rk, .int rn, .int en])), (m_w, .inl (cI, 5568, .inl fw))] sz) := by
  refine Met.ofW (cc := prog_10_method_12_code) (maxL := 4) (ret := none) (by decide) rfl ?_
  intro p e s m args below meth c s₁ B hml hv
  obtain ⟨rfl, rfl, hP, hK, hD0, hT⟩ := hv
  have hx := B.exec
  have hb := B.bytes
  have hr := B.returns
  have hts0 := atoms_spec (ws := .code y_Model_copy prog_10_method_12_code 4 none :: AW) B.pre
  have hts : ∀ w ∈ AW, w.before [.ref h, .int (nI fr_), .int (nI to_)].toArray s = true := fun w h => hts0 w (List.mem_cons_of_mem _ h)
  have hown : s.vm.findClass "TaleMachineModel" = some m.cls := findClass_of_methodNamed B.named
  have hlocks := B.notSynchronized
  have hD := hD0.self (sz := s.heap.size)
  generalize hAe : va_A [(h, .inr (8, [.int kc, .ref m_bytes, .int (nI sz_), .ref m_w, .int (nI fx), .int (nI po), .ref m_saved, .int (nI le), .ref m_line, .ref m_met, .ref m_waiting, .ref m_nextParent, .int (nI he), .ref m_kind, .ref m_number, .int (nI de), .ref m_begin, .ref m_table, .ref m_handlers, .ref m_base, .ref m_locals, .ref m_self, .ref m_found, .ref m_place, .ref m_next, .int (nI sd), .ref m_saidKind, .ref m_saidNumber, .int rk, .int rn, .int en])), (m_w, .inl (cI, 5568, .inl fw))] s.heap.size = A at hD ⊢
  have hA : ∀ q : Nat, s.heap.size ≤ q → A q := fun q h => by rw [← hAe]; exact Or.inr h
  have hS : va_S A s.heap s.heap [] := va_S.rf
  have hl := lv_entry ([.ref h, .int (nI fr_), .int (nI to_)]) (n := 4) (Nat.le_of_ble_eq_true rfl)
  rw [lg_entry_eq]
  generalize (lg_sl ([.ref h, .int (nI fr_), .int (nI to_)]) ++ List.replicate (4 - (lg_sl ([.ref h, .int (nI fr_), .int (nI to_)])).length) Slot.unset).toArray = ls at hl ⊢
  have hl : lv_has ls 4 [(0, .ref h), (1, .int (nI fr_)), (2, .int (nI to_))] := hl
  refine lv_iconst (v := 0) hx hb d_Model_copy_0 (by decide) ?_
  refine lv_istore_n (lv' := [(3, .int 0), (0, .ref h), (1, .int (nI fr_)), (2, .int (nI to_))]) hx hb d_Model_copy_1 rfl hl (by decide) rfl (fun ls hl => ?_)
  refine lp_W (I := fun k1 H locs ls => ∃ g : Nat → Int32, ((∀ j, j < k1 → g (928 * to_ + j) = fw (928 * fr_ + j)) ∧ ∀ j, (∀ i, i < 928 → j ≠ 928 * to_ + i) → g j = fw j) ∧ va_P D cL [(h, .inr (8, [.int kc, .ref m_bytes, .int (nI sz_), .ref m_w, .int (nI fx), .int (nI po), .ref m_saved, .int (nI le), .ref m_line, .ref m_met, .ref m_waiting, .ref m_nextParent, .int (nI he), .ref m_kind, .ref m_number, .int (nI de), .ref m_begin, .ref m_table, .ref m_handlers, .ref m_base, .ref m_locals, .ref m_self, .ref m_found, .ref m_place, .ref m_next, .int (nI sd), .ref m_saidKind, .ref m_saidNumber, .int rk, .int rn, .int en])), (m_w, .inl (cI, 5568, .inl g))] H ∧ va_D A [(h, .inr (8, [.int kc, .ref m_bytes, .int (nI sz_), .ref m_w, .int (nI fx), .int (nI po), .ref m_saved, .int (nI le), .ref m_line, .ref m_met, .ref m_waiting, .ref m_nextParent, .int (nI he), .ref m_kind, .ref m_number, .int (nI de), .ref m_begin, .ref m_table, .ref m_handlers, .ref m_base, .ref m_locals, .ref m_self, .ref m_found, .ref m_place, .ref m_next, .int (nI sd), .ref m_saidKind, .ref m_saidNumber, .int rk, .int rn, .int en])), (m_w, .inl (cI, 5568, .inl g))] ∧ va_S A s.heap H locs ∧ lv_has ls 4 [(3, .int (nI k1)), (0, .ref h), (1, .int (nI fr_)), (2, .int (nI to_))]) (a := 0) (b := 928) (by omega) ?_ _ _ _ ⟨fw, ⟨fun j hj => absurd hj (Nat.not_lt_zero j), fun j _ => rfl⟩, hP, hD, hS, lv_sub hl [0, 1, 2, 3] rfl⟩
  intro k1 H locs ls hkak1 hkbk1 hI ih2
  obtain ⟨g, hIk1, hP, hD, hS, hl⟩ := hI
  rcases Nat.lt_or_ge k1 928 with hkk1 | hkk1
  · refine lv_iload_n hx hb d_Model_copy_2 rfl (lv_at hl 0 rfl) ?_
    refine lv_sipush (v := 928) hx hb d_Model_copy_3 (by decide) ?_
    refine lv_icmp_ge hx hb d_Model_copy_6 (tgt := 39) (by decide) (fun hc3 => ?_) (fun hc3 => ?_)
    · have hc3N : 928 ≤ k1 := (nI_leI (a := 928) (b := k1) (by omega) (by omega)).mp hc3
      exact absurd hc3N (by omega)
    · have hc3N : ¬ 928 ≤ k1 := fun z9 => hc3 ((nI_leI (a := 928) (b := k1) (by omega) (by omega)).mpr z9)
      refine lv_aload_n hx hb d_Model_copy_9 rfl (lv_at hl 1 rfl) ?_
      refine va_get (D := D) (ci := 8) (v := .ref m_w) (C := "TaleMachineModel") (T := F_Model) (N := 31) hx hb hts in_Model hown hK hP 0 rfl rfl 3 (by decide) (hts _ k_631) (fun _ h9 => h9) rfl d_Model_copy_10 ?_
      refine lv_sipush (v := 928) hx hb d_Model_copy_13 (by decide) ?_
      refine lv_iload_n hx hb d_Model_copy_16 rfl (lv_at hl 3 rfl) ?_
      refine lv_imul hx hb d_Model_copy_17 ?_
      refine lv_topi (fun z4 hz4 => ?_)
      obtain rfl : z4 = nI (928 * to_) := hz4.trans (pk_mul 928 to_)
      refine lv_iload_n hx hb d_Model_copy_18 rfl (lv_at hl 0 rfl) ?_
      refine lv_iadd hx hb d_Model_copy_19 ?_
      refine lv_topi (fun z5 hz5 => ?_)
      obtain rfl : z5 = nI ((928 * to_) + k1) := hz5.trans (nI_add (928 * to_) k1)
      refine lv_aload_n hx hb d_Model_copy_20 rfl (lv_at hl 1 rfl) ?_
      refine va_get (D := D) (ci := 8) (v := .ref m_w) (C := "TaleMachineModel") (T := F_Model) (N := 31) hx hb hts in_Model hown hK hP 0 rfl rfl 3 (by decide) (hts _ k_631) (fun _ h9 => h9) rfl d_Model_copy_21 ?_
      refine lv_sipush (v := 928) hx hb d_Model_copy_24 (by decide) ?_
      refine lv_iload_n hx hb d_Model_copy_27 rfl (lv_at hl 2 rfl) ?_
      refine lv_imul hx hb d_Model_copy_28 ?_
      refine lv_topi (fun z6 hz6 => ?_)
      obtain rfl : z6 = nI (928 * fr_) := hz6.trans (pk_mul 928 fr_)
      refine lv_iload_n hx hb d_Model_copy_29 rfl (lv_at hl 0 rfl) ?_
      refine lv_iadd hx hb d_Model_copy_30 ?_
      refine lv_topi (fun z7 hz7 => ?_)
      obtain rfl : z7 = nI ((928 * fr_) + k1) := hz7.trans (nI_add (928 * fr_) k1)
      refine ia_ld hx hb hK hP 1 0 rfl rfl (k := (928 * fr_) + k1) (by omega) (by first | decide | assumption) d_Model_copy_31 ?_
      refine ia_st hx hb hK hP hD hS 1 0 rfl rfl (k := (928 * to_) + k1) (x := (g ((928 * fr_) + k1))) (by omega) (by first | decide | assumption) d_Model_copy_32 (fun H locs hP hD hS => ?_)
      have hP : va_P D cL [(h, .inr (8, [.int kc, .ref m_bytes, .int (nI sz_), .ref m_w, .int (nI fx), .int (nI po), .ref m_saved, .int (nI le), .ref m_line, .ref m_met, .ref m_waiting, .ref m_nextParent, .int (nI he), .ref m_kind, .ref m_number, .int (nI de), .ref m_begin, .ref m_table, .ref m_handlers, .ref m_base, .ref m_locals, .ref m_self, .ref m_found, .ref m_place, .ref m_next, .int (nI sd), .ref m_saidKind, .ref m_saidNumber, .int rk, .int rn, .int en])), (m_w, .inl (cI, 5568, .inl (upd g ((928 * to_) + k1) (g ((928 * fr_) + k1)))))] H := hP
      have hD : va_D A [(h, .inr (8, [.int kc, .ref m_bytes, .int (nI sz_), .ref m_w, .int (nI fx), .int (nI po), .ref m_saved, .int (nI le), .ref m_line, .ref m_met, .ref m_waiting, .ref m_nextParent, .int (nI he), .ref m_kind, .ref m_number, .int (nI de), .ref m_begin, .ref m_table, .ref m_handlers, .ref m_base, .ref m_locals, .ref m_self, .ref m_found, .ref m_place, .ref m_next, .int (nI sd), .ref m_saidKind, .ref m_saidNumber, .int rk, .int rn, .int en])), (m_w, .inl (cI, 5568, .inl (upd g ((928 * to_) + k1) (g ((928 * fr_) + k1)))))] := hD
      refine lv_iinc (v := (nI (k1 + 1))) (lv' := [(3, .int (nI (k1 + 1))), (0, .ref h), (1, .int (nI fr_)), (2, .int (nI to_))]) hx hb d_Model_copy_33 hl (k := 0) rfl (nI_1 k1) (by decide) rfl (fun ls hl => ?_)
      refine lv_goto hx hb d_Model_copy_36 (tgt := 2) (by decide) ?_
      exact ih2 hkk1 _ _ _ ⟨_, cp_step hkk1 h3 hIk1, hP, hD, hS, lv_sub hl [0, 1, 2, 3] rfl⟩
  · have hkk1 : k1 = 928 := by omega
    refine lv_iload_n hx hb d_Model_copy_2 rfl (lv_at hl 0 rfl) ?_
    refine lv_sipush (v := 928) hx hb d_Model_copy_3 (by decide) ?_
    refine lv_icmp_ge hx hb d_Model_copy_6 (tgt := 39) (by decide) (fun hc8 => ?_) (fun hc8 => ?_)
    · have hc8N : 928 ≤ k1 := (nI_leI (a := 928) (b := k1) (by omega) (by omega)).mp hc8
      exact end_v hx hb hr hlocks hS (u := g) (at_end (hP.sub (ws' := [(h, .inr (8, [.int kc, .ref m_bytes, .int (nI sz_), .ref m_w, .int (nI fx), .int (nI po), .ref m_saved, .int (nI le), .ref m_line, .ref m_met, .ref m_waiting, .ref m_nextParent, .int (nI he), .ref m_kind, .ref m_number, .int (nI de), .ref m_begin, .ref m_table, .ref m_handlers, .ref m_base, .ref m_locals, .ref m_self, .ref m_found, .ref m_place, .ref m_next, .int (nI sd), .ref m_saidKind, .ref m_saidNumber, .int rk, .int rn, .int en])), (m_w, .inl (cI, 5568, .inl g))]) [0, 1] rfl) (hD.sub (ws' := [(h, .inr (8, [.int kc, .ref m_bytes, .int (nI sz_), .ref m_w, .int (nI fx), .int (nI po), .ref m_saved, .int (nI le), .ref m_line, .ref m_met, .ref m_waiting, .ref m_nextParent, .int (nI he), .ref m_kind, .ref m_number, .int (nI de), .ref m_begin, .ref m_table, .ref m_handlers, .ref m_base, .ref m_locals, .ref m_self, .ref m_found, .ref m_place, .ref m_next, .int (nI sd), .ref m_saidKind, .ref m_saidNumber, .int rk, .int rn, .int en])), (m_w, .inl (cI, 5568, .inl g))]) [0, 1] (by decide) rfl)) (hkk1 ▸ hIk1) (Nat.le_of_ble_eq_true rfl) (Nat.le_of_ble_eq_true rfl) d_Model_copy_39
    · have hc8N : ¬ 928 ≤ k1 := fun z9 => hc8 ((nI_leI (a := 928) (b := k1) (by omega) (by omega)).mpr z9)
      exact absurd hc8N (by omega)

set_option maxHeartbeats 4000000 in
set_option maxRecDepth 100000 in
theorem g_empty (l : Launch) (D : va_G) (cI cZ cJ : ClassId) (h m_bytes m_w m_saved m_line m_met m_waiting m_nextParent m_kind m_number m_begin m_table m_handlers m_base m_locals m_self m_found m_place m_next m_saidKind m_saidNumber : Nat) (kc rk rn en : Int32) (sz_ fx po le he de sd : Nat) (oo : Nat) (fw : Nat → Int32) (sz : Nat) (ho : oo < 32) : Met l y_Model_empty (.code y_Model_empty prog_10_method_11_code 3 none :: AW) ({ frames := 1, cells := 0, slots := 0, locals := 22 }) (va_Pc [.ref h, .int (nI oo)] (pre_ D [(h, .inr (8, [.int kc, .ref m_bytes, .int (nI sz_), .ref m_w, .int (nI fx), .int (nI po), .ref m_saved, .int (nI le), .ref m_line, .ref m_met, .ref m_waiting, .ref m_nextParent, .int (nI he), .ref m_kind, .ref m_number, .int (nI de), .ref m_begin, .ref m_table, .ref m_handlers, .ref m_base, .ref m_locals, .ref m_self, .ref m_found, .ref m_place, .ref m_next, .int (nI sd), .ref m_saidKind, .ref m_saidNumber, .int rk, .int rn, .int en])), (m_w, .inl (cI, 5568, .inl fw))] [(cI, .int), (cZ, .boolean), (cJ, .long)] sz)) (va_Qv (fun (u : Nat → Int32) => u (29 * oo) = 1 ∧ u (29 * oo + 1) = 0 ∧ ∀ j, (∀ i, i < 29 → j ≠ 29 * oo + i) → u j = fw j) (fun u t => match u with | g2 => post_ D (va_A [(h, .inr (8, [.int kc, .ref m_bytes, .int (nI sz_), .ref m_w, .int (nI fx), .int (nI po), .ref m_saved, .int (nI le), .ref m_line, .ref m_met, .ref m_waiting, .ref m_nextParent, .int (nI he), .ref m_kind, .ref m_number, .int (nI de), .ref m_begin, .ref m_table, .ref m_handlers, .ref m_base, .ref m_locals, .ref m_self, .ref m_found, .ref m_place, .ref m_next, .int (nI sd), .ref m_saidKind, .ref m_saidNumber, .int rk, .int rn, .int en])), (m_w, .inl (cI, 5568, .inl fw))] sz) [(h, .inr (8, [.int kc, .ref m_bytes, .int (nI sz_), .ref m_w, .int (nI fx), .int (nI po), .ref m_saved, .int (nI le), .ref m_line, .ref m_met, .ref m_waiting, .ref m_nextParent, .int (nI he), .ref m_kind, .ref m_number, .int (nI de), .ref m_begin, .ref m_table, .ref m_handlers, .ref m_base, .ref m_locals, .ref m_self, .ref m_found, .ref m_place, .ref m_next, .int (nI sd), .ref m_saidKind, .ref m_saidNumber, .int rk, .int rn, .int en])), (m_w, .inl (cI, 5568, .inl g2))] t) (va_A [(h, .inr (8, [.int kc, .ref m_bytes, .int (nI sz_), .ref m_w, .int (nI fx), .int (nI po), .ref m_saved, .int (nI le), .ref m_line, .ref m_met, .ref m_waiting, .ref m_nextParent, .int (nI he), .ref m_kind, .ref m_number, .int (nI de), .ref m_begin, .ref m_table, .ref m_handlers, .ref m_base, .ref m_locals, .ref m_self, .ref m_found, .ref m_place, .ref m_next, .int (nI sd), .ref m_saidKind, .ref m_saidNumber, .int rk, .int rn, .int en])), (m_w, .inl (cI, 5568, .inl fw))] sz)) 0 0 (va_A [(h, .inr (8, [.int kc, .ref m_bytes, .int (nI sz_), .ref m_w, .int (nI fx), .int (nI po), .ref m_saved, .int (nI le), .ref m_line, .ref m_met, .ref m_waiting, .ref m_nextParent, .int (nI he), .ref m_kind, .ref m_number, .int (nI de), .ref m_begin, .ref m_table, .ref m_handlers, .ref m_base, .ref m_locals, .ref m_self, .ref m_found, .ref m_place, .ref m_next, .int (nI sd), .ref m_saidKind, .ref m_saidNumber, .int rk, .int rn, .int en])), (m_w, .inl (cI, 5568, .inl fw))] sz) := by
  refine Met.ofW (cc := prog_10_method_11_code) (maxL := 3) (ret := none) (by decide) rfl ?_
  intro p e s m args below meth c s₁ B hml hv
  obtain ⟨rfl, rfl, hP, hK, hD0, hT⟩ := hv
  have hx := B.exec
  have hb := B.bytes
  have hr := B.returns
  have hts0 := atoms_spec (ws := .code y_Model_empty prog_10_method_11_code 3 none :: AW) B.pre
  have hts : ∀ w ∈ AW, w.before [.ref h, .int (nI oo)].toArray s = true := fun w h => hts0 w (List.mem_cons_of_mem _ h)
  have hown : s.vm.findClass "TaleMachineModel" = some m.cls := findClass_of_methodNamed B.named
  have hlocks := B.notSynchronized
  have hD := hD0.self (sz := s.heap.size)
  generalize hAe : va_A [(h, .inr (8, [.int kc, .ref m_bytes, .int (nI sz_), .ref m_w, .int (nI fx), .int (nI po), .ref m_saved, .int (nI le), .ref m_line, .ref m_met, .ref m_waiting, .ref m_nextParent, .int (nI he), .ref m_kind, .ref m_number, .int (nI de), .ref m_begin, .ref m_table, .ref m_handlers, .ref m_base, .ref m_locals, .ref m_self, .ref m_found, .ref m_place, .ref m_next, .int (nI sd), .ref m_saidKind, .ref m_saidNumber, .int rk, .int rn, .int en])), (m_w, .inl (cI, 5568, .inl fw))] s.heap.size = A at hD ⊢
  have hA : ∀ q : Nat, s.heap.size ≤ q → A q := fun q h => by rw [← hAe]; exact Or.inr h
  have hS : va_S A s.heap s.heap [] := va_S.rf
  have hl := lv_entry ([.ref h, .int (nI oo)]) (n := 3) (Nat.le_of_ble_eq_true rfl)
  rw [lg_entry_eq]
  generalize (lg_sl ([.ref h, .int (nI oo)]) ++ List.replicate (3 - (lg_sl ([.ref h, .int (nI oo)])).length) Slot.unset).toArray = ls at hl ⊢
  have hl : lv_has ls 3 [(0, .ref h), (1, .int (nI oo))] := hl
  refine lv_aload_n hx hb d_Model_empty_0 rfl (lv_at hl 0 rfl) ?_
  refine va_get (D := D) (ci := 8) (v := .ref m_w) (C := "TaleMachineModel") (T := F_Model) (N := 31) hx hb hts in_Model hown hK hP 0 rfl rfl 3 (by decide) (hts _ k_631) (fun _ h9 => h9) rfl d_Model_empty_1 ?_
  refine lv_bipush (v := 29) hx hb d_Model_empty_4 (by decide) ?_
  refine lv_iload_n hx hb d_Model_empty_6 rfl (lv_at hl 1 rfl) ?_
  refine lv_imul hx hb d_Model_empty_7 ?_
  refine lv_topi (fun z1 hz1 => ?_)
  obtain rfl : z1 = nI (29 * oo) := hz1.trans (pk_mul 29 oo)
  refine lv_iconst (v := 1) hx hb d_Model_empty_8 (by decide) ?_
  refine ia_st hx hb hK hP hD hS 1 0 rfl rfl (k := 29 * oo) (x := 1) (by omega) (by first | decide | assumption) d_Model_empty_9 (fun H locs hP hD hS => ?_)
  have hP : va_P D cL [(h, .inr (8, [.int kc, .ref m_bytes, .int (nI sz_), .ref m_w, .int (nI fx), .int (nI po), .ref m_saved, .int (nI le), .ref m_line, .ref m_met, .ref m_waiting, .ref m_nextParent, .int (nI he), .ref m_kind, .ref m_number, .int (nI de), .ref m_begin, .ref m_table, .ref m_handlers, .ref m_base, .ref m_locals, .ref m_self, .ref m_found, .ref m_place, .ref m_next, .int (nI sd), .ref m_saidKind, .ref m_saidNumber, .int rk, .int rn, .int en])), (m_w, .inl (cI, 5568, .inl (upd fw (29 * oo) 1)))] H := hP
  have hD : va_D A [(h, .inr (8, [.int kc, .ref m_bytes, .int (nI sz_), .ref m_w, .int (nI fx), .int (nI po), .ref m_saved, .int (nI le), .ref m_line, .ref m_met, .ref m_waiting, .ref m_nextParent, .int (nI he), .ref m_kind, .ref m_number, .int (nI de), .ref m_begin, .ref m_table, .ref m_handlers, .ref m_base, .ref m_locals, .ref m_self, .ref m_found, .ref m_place, .ref m_next, .int (nI sd), .ref m_saidKind, .ref m_saidNumber, .int rk, .int rn, .int en])), (m_w, .inl (cI, 5568, .inl (upd fw (29 * oo) 1)))] := hD
  refine lv_aload_n hx hb d_Model_empty_10 rfl (lv_at hl 0 rfl) ?_
  refine va_get (D := D) (ci := 8) (v := .ref m_w) (C := "TaleMachineModel") (T := F_Model) (N := 31) hx hb hts in_Model hown hK hP 0 rfl rfl 3 (by decide) (hts _ k_631) (fun _ h9 => h9) rfl d_Model_empty_11 ?_
  refine lv_bipush (v := 29) hx hb d_Model_empty_14 (by decide) ?_
  refine lv_iload_n hx hb d_Model_empty_16 rfl (lv_at hl 1 rfl) ?_
  refine lv_imul hx hb d_Model_empty_17 ?_
  refine lv_topi (fun z2 hz2 => ?_)
  obtain rfl : z2 = nI (29 * oo) := hz2.trans (pk_mul 29 oo)
  refine lv_iconst (v := 1) hx hb d_Model_empty_18 (by decide) ?_
  refine lv_iadd hx hb d_Model_empty_19 ?_
  refine lv_topi (fun z3 hz3 => ?_)
  obtain rfl : z3 = nI ((29 * oo) + 1) := hz3.trans (nI_add (29 * oo) 1)
  refine lv_iconst (v := 0) hx hb d_Model_empty_20 (by decide) ?_
  refine ia_st hx hb hK hP hD hS 1 0 rfl rfl (k := (29 * oo) + 1) (x := 0) (by omega) (by first | decide | assumption) d_Model_empty_21 (fun H locs hP hD hS => ?_)
  have hP : va_P D cL [(h, .inr (8, [.int kc, .ref m_bytes, .int (nI sz_), .ref m_w, .int (nI fx), .int (nI po), .ref m_saved, .int (nI le), .ref m_line, .ref m_met, .ref m_waiting, .ref m_nextParent, .int (nI he), .ref m_kind, .ref m_number, .int (nI de), .ref m_begin, .ref m_table, .ref m_handlers, .ref m_base, .ref m_locals, .ref m_self, .ref m_found, .ref m_place, .ref m_next, .int (nI sd), .ref m_saidKind, .ref m_saidNumber, .int rk, .int rn, .int en])), (m_w, .inl (cI, 5568, .inl (upd (upd fw (29 * oo) 1) ((29 * oo) + 1) 0)))] H := hP
  have hD : va_D A [(h, .inr (8, [.int kc, .ref m_bytes, .int (nI sz_), .ref m_w, .int (nI fx), .int (nI po), .ref m_saved, .int (nI le), .ref m_line, .ref m_met, .ref m_waiting, .ref m_nextParent, .int (nI he), .ref m_kind, .ref m_number, .int (nI de), .ref m_begin, .ref m_table, .ref m_handlers, .ref m_base, .ref m_locals, .ref m_self, .ref m_found, .ref m_place, .ref m_next, .int (nI sd), .ref m_saidKind, .ref m_saidNumber, .int rk, .int rn, .int en])), (m_w, .inl (cI, 5568, .inl (upd (upd fw (29 * oo) 1) ((29 * oo) + 1) 0)))] := hD
  refine lv_iconst (v := 0) hx hb d_Model_empty_22 (by decide) ?_
  refine lv_istore_n (lv' := [(2, .int 0), (0, .ref h), (1, .int (nI oo))]) hx hb d_Model_empty_23 rfl hl (by decide) rfl (fun ls hl => ?_)
  refine lp_W (I := fun k4 H locs ls => ∃ g : Nat → Int32, (g (29 * oo) = 1 ∧ g (29 * oo + 1) = 0 ∧ ∀ j, (∀ i, i < 29 → j ≠ 29 * oo + i) → g j = fw j) ∧ va_P D cL [(h, .inr (8, [.int kc, .ref m_bytes, .int (nI sz_), .ref m_w, .int (nI fx), .int (nI po), .ref m_saved, .int (nI le), .ref m_line, .ref m_met, .ref m_waiting, .ref m_nextParent, .int (nI he), .ref m_kind, .ref m_number, .int (nI de), .ref m_begin, .ref m_table, .ref m_handlers, .ref m_base, .ref m_locals, .ref m_self, .ref m_found, .ref m_place, .ref m_next, .int (nI sd), .ref m_saidKind, .ref m_saidNumber, .int rk, .int rn, .int en])), (m_w, .inl (cI, 5568, .inl g))] H ∧ va_D A [(h, .inr (8, [.int kc, .ref m_bytes, .int (nI sz_), .ref m_w, .int (nI fx), .int (nI po), .ref m_saved, .int (nI le), .ref m_line, .ref m_met, .ref m_waiting, .ref m_nextParent, .int (nI he), .ref m_kind, .ref m_number, .int (nI de), .ref m_begin, .ref m_table, .ref m_handlers, .ref m_base, .ref m_locals, .ref m_self, .ref m_found, .ref m_place, .ref m_next, .int (nI sd), .ref m_saidKind, .ref m_saidNumber, .int rk, .int rn, .int en])), (m_w, .inl (cI, 5568, .inl g))] ∧ va_S A s.heap H locs ∧ lv_has ls 3 [(2, .int (nI k4)), (0, .ref h), (1, .int (nI oo))]) (a := 0) (b := 8) (by omega) ?_ _ _ _ ⟨_, em_init fw oo, hP, hD, hS, lv_sub hl [0, 1, 2] rfl⟩
  intro k4 H locs ls hkak4 hkbk4 hI ih5
  obtain ⟨g, hIk4, hP, hD, hS, hl⟩ := hI
  rcases Nat.lt_or_ge k4 8 with hkk4 | hkk4
  · refine lv_iload_n hx hb d_Model_empty_24 rfl (lv_at hl 0 rfl) ?_
    refine lv_bipush (v := 8) hx hb d_Model_empty_25 (by decide) ?_
    refine lv_icmp_ge hx hb d_Model_empty_27 (tgt := 48) (by decide) (fun hc6 => ?_) (fun hc6 => ?_)
    · have hc6N : 8 ≤ k4 := (nI_leI (a := 8) (b := k4) (by omega) (by omega)).mp hc6
      exact absurd hc6N (by omega)
    · have hc6N : ¬ 8 ≤ k4 := fun z9 => hc6 ((nI_leI (a := 8) (b := k4) (by omega) (by omega)).mpr z9)
      refine lv_aload_n hx hb d_Model_empty_30 rfl (lv_at hl 1 rfl) ?_
      refine va_get (D := D) (ci := 8) (v := .ref m_w) (C := "TaleMachineModel") (T := F_Model) (N := 31) hx hb hts in_Model hown hK hP 0 rfl rfl 3 (by decide) (hts _ k_631) (fun _ h9 => h9) rfl d_Model_empty_31 ?_
      refine lv_aload_n hx hb d_Model_empty_34 rfl (lv_at hl 1 rfl) ?_
      refine lv_iload_n hx hb d_Model_empty_35 rfl (lv_at hl 2 rfl) ?_
      refine lv_iload_n hx hb d_Model_empty_36 rfl (lv_at hl 0 rfl) ?_
      refine mv_i (va_runV (C := "TaleMachineModel") (As := [.int (nI oo), .int (nI k4)]) (rest := [.ref m_w]) ⟨hx, hb, hml, hown, hts⟩ (g_placeOf l D cI cZ cJ h oo k4 _ ) (cwV 2 hts (gInV k_710 k_711 k_901 k_10 k_712) rfl rfl rfl (by decide +kernel) ⟨Nat.le_of_ble_eq_true rfl, Nat.le_of_ble_eq_true rfl⟩) (pre_V (va_recv hK hP (q := ("TaleMachineModel", F_Model, 31)) rfl (q0 := 0) rfl) (hP.sub [] rfl) (hK.sub [0, 1, 2] rfl) (hD.sub [] (by decide) rfl) hT) rfl rfl hl.1 rfl (lv_room (Nat.le_of_ble_eq_true rfl)) d_Model_empty_37 ⟨Nat.le_of_ble_eq_true rfl, Nat.le_of_ble_eq_true rfl⟩) hP hD hS hA [] [0, 1] rfl rfl (by decide) (by decide) (wr := [(h, .inr (8, [.int kc, .ref m_bytes, .int (nI sz_), .ref m_w, .int (nI fx), .int (nI po), .ref m_saved, .int (nI le), .ref m_line, .ref m_met, .ref m_waiting, .ref m_nextParent, .int (nI he), .ref m_kind, .ref m_number, .int (nI de), .ref m_begin, .ref m_table, .ref m_handlers, .ref m_base, .ref m_locals, .ref m_self, .ref m_found, .ref m_place, .ref m_next, .int (nI sd), .ref m_saidKind, .ref m_saidNumber, .int rk, .int rn, .int en])), (m_w, .inl (cI, 5568, .inl g))]) (wn := fun _ => []) (fun _ _ h9 => h9) (fun r7 _ H locs hp8 hP hD hS => ?_)
      have hP : va_P D cL [(h, .inr (8, [.int kc, .ref m_bytes, .int (nI sz_), .ref m_w, .int (nI fx), .int (nI po), .ref m_saved, .int (nI le), .ref m_line, .ref m_met, .ref m_waiting, .ref m_nextParent, .int (nI he), .ref m_kind, .ref m_number, .int (nI de), .ref m_begin, .ref m_table, .ref m_handlers, .ref m_base, .ref m_locals, .ref m_self, .ref m_found, .ref m_place, .ref m_next, .int (nI sd), .ref m_saidKind, .ref m_saidNumber, .int rk, .int rn, .int en])), (m_w, .inl (cI, 5568, .inl g))] H := hP
      have hD : va_D A [(h, .inr (8, [.int kc, .ref m_bytes, .int (nI sz_), .ref m_w, .int (nI fx), .int (nI po), .ref m_saved, .int (nI le), .ref m_line, .ref m_met, .ref m_waiting, .ref m_nextParent, .int (nI he), .ref m_kind, .ref m_number, .int (nI de), .ref m_begin, .ref m_table, .ref m_handlers, .ref m_base, .ref m_locals, .ref m_self, .ref m_found, .ref m_place, .ref m_next, .int (nI sd), .ref m_saidKind, .ref m_saidNumber, .int rk, .int rn, .int en])), (m_w, .inl (cI, 5568, .inl g))] := hD
      obtain rfl : r7 = nI (29 * oo + 5 + 3 * k4) := hp8
      refine lv_iconst (v := 0) hx hb d_Model_empty_40 (by decide) ?_
      refine ia_st hx hb hK hP hD hS 1 0 rfl rfl (k := 29 * oo + 5 + 3 * k4) (x := 0) (by omega) (by first | decide | assumption) d_Model_empty_41 (fun H locs hP hD hS => ?_)
      have hP : va_P D cL [(h, .inr (8, [.int kc, .ref m_bytes, .int (nI sz_), .ref m_w, .int (nI fx), .int (nI po), .ref m_saved, .int (nI le), .ref m_line, .ref m_met, .ref m_waiting, .ref m_nextParent, .int (nI he), .ref m_kind, .ref m_number, .int (nI de), .ref m_begin, .ref m_table, .ref m_handlers, .ref m_base, .ref m_locals, .ref m_self, .ref m_found, .ref m_place, .ref m_next, .int (nI sd), .ref m_saidKind, .ref m_saidNumber, .int rk, .int rn, .int en])), (m_w, .inl (cI, 5568, .inl (upd g (29 * oo + 5 + 3 * k4) 0)))] H := hP
      have hD : va_D A [(h, .inr (8, [.int kc, .ref m_bytes, .int (nI sz_), .ref m_w, .int (nI fx), .int (nI po), .ref m_saved, .int (nI le), .ref m_line, .ref m_met, .ref m_waiting, .ref m_nextParent, .int (nI he), .ref m_kind, .ref m_number, .int (nI de), .ref m_begin, .ref m_table, .ref m_handlers, .ref m_base, .ref m_locals, .ref m_self, .ref m_found, .ref m_place, .ref m_next, .int (nI sd), .ref m_saidKind, .ref m_saidNumber, .int rk, .int rn, .int en])), (m_w, .inl (cI, 5568, .inl (upd g (29 * oo + 5 + 3 * k4) 0)))] := hD
      refine lv_iinc (v := (nI (k4 + 1))) (lv' := [(2, .int (nI (k4 + 1))), (0, .ref h), (1, .int (nI oo))]) hx hb d_Model_empty_42 hl (k := 0) rfl (nI_1 k4) (by decide) rfl (fun ls hl => ?_)
      refine lv_goto hx hb d_Model_empty_45 (tgt := 24) (by decide) ?_
      exact ih5 hkk4 _ _ _ ⟨_, em_step hkk4 hIk4, hP, hD, hS, lv_sub hl [0, 1, 2] rfl⟩
  · have hkk4 : k4 = 8 := by omega
    refine lv_iload_n hx hb d_Model_empty_24 rfl (lv_at hl 0 rfl) ?_
    refine lv_bipush (v := 8) hx hb d_Model_empty_25 (by decide) ?_
    refine lv_icmp_ge hx hb d_Model_empty_27 (tgt := 48) (by decide) (fun hc9 => ?_) (fun hc9 => ?_)
    · have hc9N : 8 ≤ k4 := (nI_leI (a := 8) (b := k4) (by omega) (by omega)).mp hc9
      exact end_v hx hb hr hlocks hS (u := g) (at_end (hP.sub (ws' := [(h, .inr (8, [.int kc, .ref m_bytes, .int (nI sz_), .ref m_w, .int (nI fx), .int (nI po), .ref m_saved, .int (nI le), .ref m_line, .ref m_met, .ref m_waiting, .ref m_nextParent, .int (nI he), .ref m_kind, .ref m_number, .int (nI de), .ref m_begin, .ref m_table, .ref m_handlers, .ref m_base, .ref m_locals, .ref m_self, .ref m_found, .ref m_place, .ref m_next, .int (nI sd), .ref m_saidKind, .ref m_saidNumber, .int rk, .int rn, .int en])), (m_w, .inl (cI, 5568, .inl g))]) [0, 1] rfl) (hD.sub (ws' := [(h, .inr (8, [.int kc, .ref m_bytes, .int (nI sz_), .ref m_w, .int (nI fx), .int (nI po), .ref m_saved, .int (nI le), .ref m_line, .ref m_met, .ref m_waiting, .ref m_nextParent, .int (nI he), .ref m_kind, .ref m_number, .int (nI de), .ref m_begin, .ref m_table, .ref m_handlers, .ref m_base, .ref m_locals, .ref m_self, .ref m_found, .ref m_place, .ref m_next, .int (nI sd), .ref m_saidKind, .ref m_saidNumber, .int rk, .int rn, .int en])), (m_w, .inl (cI, 5568, .inl g))]) [0, 1] (by decide) rfl)) (hIk4) (Nat.le_of_ble_eq_true rfl) (Nat.le_of_ble_eq_true rfl) d_Model_empty_48
    · have hc9N : ¬ 8 ≤ k4 := fun z9 => hc9 ((nI_leI (a := 8) (b := k4) (by omega) (by omega)).mpr z9)
      exact absurd hc9N (by omega)
