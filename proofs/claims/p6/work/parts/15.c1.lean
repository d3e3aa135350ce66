set_option maxHeartbeats 4000000 in
set_option maxRecDepth 100000 in
theorem s_at (l : Launch) (D : va_G) (cI cZ cJ : ClassId) (h by_ : Nat) (ln : Nat) (fb : Nat → Int32) (ad : Int32) (sz : Nat) (hln : ln ≤ 300) : Met l y_Script_at (.code y_Script_at prog_4_method_3_code 2 (some .int) :: AW) ({ frames := 0, cells := 0, slots := 0, locals := 0 }) (va_Pc [.ref h, .int ad] (pre_ D [(h, .inr (2, [.ref by_, .int (nI ln)])), (by_, .inl (cI, 300, .inl fb))] [(cI, .int), (cZ, .boolean), (cJ, .long)] sz)) (va_Qi (fun (r : Int32) (u : Unit) => r = -1 ∨ ∃ j, j < ln ∧ ad = nI j ∧ r = fb j) (fun _ t => post_ D (va_A [(h, .inr (2, [.ref by_, .int (nI ln)])), (by_, .inl (cI, 300, .inl fb))] sz) [(h, .inr (2, [.ref by_, .int (nI ln)])), (by_, .inl (cI, 300, .inl fb))] t) (va_A [(h, .inr (2, [.ref by_, .int (nI ln)])), (by_, .inl (cI, 300, .inl fb))] sz)) 0 0 (va_A [(h, .inr (2, [.ref by_, .int (nI ln)])), (by_, .inl (cI, 300, .inl fb))] sz) := by
  refine Met.ofW (cc := prog_4_method_3_code) (maxL := 2) (ret := (some .int)) (by decide) rfl ?_
  intro p e s m args below meth c s₁ B hml hv
  obtain ⟨rfl, rfl, hP, hK, hD0, hT⟩ := hv
  have hx := B.exec
  have hb := B.bytes
  have hr := B.returns
  have hts0 := atoms_spec (ws := .code y_Script_at prog_4_method_3_code 2 (some .int) :: AW) B.pre
  have hts : ∀ w ∈ AW, w.before [.ref h, .int ad].toArray s = true := fun w h => hts0 w (List.mem_cons_of_mem _ h)
  have hown : s.vm.findClass "TaleMachine$Script" = some m.cls := findClass_of_methodNamed B.named
  have hlocks := B.notSynchronized
  have hD := hD0.self (sz := s.heap.size)
  generalize hAe : va_A [(h, .inr (2, [.ref by_, .int (nI ln)])), (by_, .inl (cI, 300, .inl fb))] s.heap.size = A at hD ⊢
  have hA : ∀ q : Nat, s.heap.size ≤ q → A q := fun q h => by rw [← hAe]; exact Or.inr h
  have hS : va_S A s.heap s.heap [] := va_S.rf
  have hl := lv_entry ([.ref h, .int ad]) (n := 2) (Nat.le_of_ble_eq_true rfl)
  rw [lg_entry_eq]
  generalize (lg_sl ([.ref h, .int ad]) ++ List.replicate (2 - (lg_sl ([.ref h, .int ad])).length) Slot.unset).toArray = ls at hl ⊢
  have hl : lv_has ls 2 [(0, .ref h), (1, .int ad)] := hl
  refine lv_iload_n hx hb d_Script_at_0 rfl (lv_at hl 1 rfl) ?_
  refine lv_if_lt hx hb d_Script_at_1 (tgt := 21) (by decide) (fun hc1 => ?_) (fun hc1 => ?_)
  · refine lv_iconst (v := (-1)) hx hb d_Script_at_21 (by decide) ?_
    exact end_i hx hb hr hlocks hS (u := ()) (r := (-1)) (at_end (hP.sub (ws' := [(h, .inr (2, [.ref by_, .int (nI ln)])), (by_, .inl (cI, 300, .inl fb))]) [0, 1] rfl) (hD.sub (ws' := [(h, .inr (2, [.ref by_, .int (nI ln)])), (by_, .inl (cI, 300, .inl fb))]) [0, 1] (by decide) rfl)) (Or.inl rfl) (Nat.le_of_ble_eq_true rfl) (Nat.le_of_ble_eq_true rfl) d_Script_at_22
  · refine lv_iload_n hx hb d_Script_at_4 rfl (lv_at hl 1 rfl) ?_
    refine lv_aload_n hx hb d_Script_at_5 rfl (lv_at hl 0 rfl) ?_
    refine va_get (D := D) (ci := 2) (v := .int (nI ln)) (C := "TaleMachine$Script") (T := F_Script) (N := 2) hx hb hts in_Script hown hK hP 0 rfl rfl 1 (by decide) (hts _ k_33) (fun _ h9 => h9) rfl d_Script_at_6 ?_
    refine lv_icmp_ge hx hb d_Script_at_9 (tgt := 21) (by decide) (fun hc2 => ?_) (fun hc2 => ?_)
    · refine lv_iconst (v := (-1)) hx hb d_Script_at_21 (by decide) ?_
      exact end_i hx hb hr hlocks hS (u := ()) (r := (-1)) (at_end (hP.sub (ws' := [(h, .inr (2, [.ref by_, .int (nI ln)])), (by_, .inl (cI, 300, .inl fb))]) [0, 1] rfl) (hD.sub (ws' := [(h, .inr (2, [.ref by_, .int (nI ln)])), (by_, .inl (cI, 300, .inl fb))]) [0, 1] (by decide) rfl)) (Or.inl rfl) (Nat.le_of_ble_eq_true rfl) (Nat.le_of_ble_eq_true rfl) d_Script_at_22
    · refine lv_aload_n hx hb d_Script_at_12 rfl (lv_at hl 0 rfl) ?_
      refine va_get (D := D) (ci := 2) (v := .ref by_) (C := "TaleMachine$Script") (T := F_Script) (N := 2) hx hb hts in_Script hown hK hP 0 rfl rfl 0 (by decide) (hts _ k_32) (fun _ h9 => h9) rfl d_Script_at_13 ?_
      refine lv_iload_n hx hb d_Script_at_16 rfl (lv_at hl 1 rfl) ?_
      obtain ⟨j, hj, hje⟩ := sat_ix hln hc1 hc2
      refine lv_topi (fun z3 hz3 => ?_)
      obtain rfl : z3 = (nI j) := hz3.trans (hje)
      refine ia_ld hx hb hK hP 1 0 rfl rfl (k := j) (by omega) (by first | decide | assumption) d_Script_at_17 ?_
      refine lv_goto hx hb d_Script_at_18 (tgt := 22) (by decide) ?_
      exact end_i hx hb hr hlocks hS (u := ()) (r := (fb j)) (at_end (hP.sub (ws' := [(h, .inr (2, [.ref by_, .int (nI ln)])), (by_, .inl (cI, 300, .inl fb))]) [0, 1] rfl) (hD.sub (ws' := [(h, .inr (2, [.ref by_, .int (nI ln)])), (by_, .inl (cI, 300, .inl fb))]) [0, 1] (by decide) rfl)) (Or.inr ⟨j, hj, hje, rfl⟩) (Nat.le_of_ble_eq_true rfl) (Nat.le_of_ble_eq_true rfl) d_Script_at_22

set_option maxHeartbeats 4000000 in
set_option maxRecDepth 100000 in
theorem s_address (l : Launch) (D : va_G) (cI cZ cJ : ClassId) (h by_ : Nat) (ln : Nat) (fb : Nat → Int32) (ad : Int32) (sz : Nat) (hln : ln ≤ 300) : Met l y_Script_address (.code y_Script_address prog_4_method_4_code 2 (some .int) :: AW) ({ frames := 1, cells := 0, slots := 0, locals := 21 }) (va_Pc [.ref h, .int ad] (pre_ D [(h, .inr (2, [.ref by_, .int (nI ln)])), (by_, .inl (cI, 300, .inl fb))] [(cI, .int), (cZ, .boolean), (cJ, .long)] sz)) (va_Qi (fun (r : Int32) (u : Unit) => True) (fun _ t => post_ D (va_A [(h, .inr (2, [.ref by_, .int (nI ln)])), (by_, .inl (cI, 300, .inl fb))] sz) [(h, .inr (2, [.ref by_, .int (nI ln)])), (by_, .inl (cI, 300, .inl fb))] t) (va_A [(h, .inr (2, [.ref by_, .int (nI ln)])), (by_, .inl (cI, 300, .inl fb))] sz)) 0 0 (va_A [(h, .inr (2, [.ref by_, .int (nI ln)])), (by_, .inl (cI, 300, .inl fb))] sz) := by
  refine Met.ofW (cc := prog_4_method_4_code) (maxL := 2) (ret := (some .int)) (by decide) rfl ?_
  intro p e s m args below meth c s₁ B hml hv
  obtain ⟨rfl, rfl, hP, hK, hD0, hT⟩ := hv
  have hx := B.exec
  have hb := B.bytes
  have hr := B.returns
  have hts0 := atoms_spec (ws := .code y_Script_address prog_4_method_4_code 2 (some .int) :: AW) B.pre
  have hts : ∀ w ∈ AW, w.before [.ref h, .int ad].toArray s = true := fun w h => hts0 w (List.mem_cons_of_mem _ h)
  have hown : s.vm.findClass "TaleMachine$Script" = some m.cls := findClass_of_methodNamed B.named
  have hlocks := B.notSynchronized
  have hD := hD0.self (sz := s.heap.size)
  generalize hAe : va_A [(h, .inr (2, [.ref by_, .int (nI ln)])), (by_, .inl (cI, 300, .inl fb))] s.heap.size = A at hD ⊢
  have hA : ∀ q : Nat, s.heap.size ≤ q → A q := fun q h => by rw [← hAe]; exact Or.inr h
  have hS : va_S A s.heap s.heap [] := va_S.rf
  have hl := lv_entry ([.ref h, .int ad]) (n := 2) (Nat.le_of_ble_eq_true rfl)
  rw [lg_entry_eq]
  generalize (lg_sl ([.ref h, .int ad]) ++ List.replicate (2 - (lg_sl ([.ref h, .int ad])).length) Slot.unset).toArray = ls at hl ⊢
  have hl : lv_has ls 2 [(0, .ref h), (1, .int ad)] := hl
  refine lv_aload_n hx hb d_Script_address_0 rfl (lv_at hl 0 rfl) ?_
  refine lv_iload_n hx hb d_Script_address_1 rfl (lv_at hl 1 rfl) ?_
  refine mv_i (va_runV (C := "TaleMachine$Script") (As := [.int ad]) (rest := []) ⟨hx, hb, hml, hown, hts⟩ (s_at l D cI cZ cJ h by_ ln fb ad _ (by first | assumption | omega | decide)) (cwV 1 hts (gInV k_203 k_204 k_205 k_2 k_206) rfl rfl rfl (by decide +kernel) ⟨Nat.le_of_ble_eq_true rfl, Nat.le_of_ble_eq_true rfl⟩) (pre_V (va_recv hK hP (q := ("TaleMachine$Script", F_Script, 2)) rfl (q0 := 0) rfl) (hP.sub [0, 1] rfl) (hK.sub [0, 1, 2] rfl) (hD.sub [0, 1] (by decide) rfl) hT) rfl rfl hl.1 rfl (lv_room (Nat.le_of_ble_eq_true rfl)) d_Script_address_2 ⟨Nat.le_of_ble_eq_true rfl, Nat.le_of_ble_eq_true rfl⟩) hP hD hS hA [0, 1] [] rfl rfl (by decide) (by decide) (wr := []) (wn := fun _ => [(h, .inr (2, [.ref by_, .int (nI ln)])), (by_, .inl (cI, 300, .inl fb))]) (fun _ _ h9 => h9) (fun r1 _ H locs hp2 hP hD hS => ?_)
  have hP : va_P D cL [(h, .inr (2, [.ref by_, .int (nI ln)])), (by_, .inl (cI, 300, .inl fb))] H := hP
  have hD : va_D A [(h, .inr (2, [.ref by_, .int (nI ln)])), (by_, .inl (cI, 300, .inl fb))] := hD
  refine lv_bipush (v := 8) hx hb d_Script_address_5 (by decide) ?_
  refine lv_ishl hx hb d_Script_address_7 ?_
  refine lv_topi (fun z3 hz3 => ?_)
  refine lv_aload_n hx hb d_Script_address_8 rfl (lv_at hl 0 rfl) ?_
  refine lv_iload_n hx hb d_Script_address_9 rfl (lv_at hl 1 rfl) ?_
  refine lv_iconst (v := 1) hx hb d_Script_address_10 (by decide) ?_
  refine lv_iadd hx hb d_Script_address_11 ?_
  refine lv_topi (fun z4 hz4 => ?_)
  refine mv_i (va_runV (C := "TaleMachine$Script") (As := [.int z4]) (rest := [.int z3]) ⟨hx, hb, hml, hown, hts⟩ (s_at l D cI cZ cJ h by_ ln fb z4 _ (by first | assumption | omega | decide)) (cwV 1 hts (gInV k_203 k_204 k_205 k_2 k_206) rfl rfl rfl (by decide +kernel) ⟨Nat.le_of_ble_eq_true rfl, Nat.le_of_ble_eq_true rfl⟩) (pre_V (va_recv hK hP (q := ("TaleMachine$Script", F_Script, 2)) rfl (q0 := 0) rfl) (hP.sub [0, 1] rfl) (hK.sub [0, 1, 2] rfl) (hD.sub [0, 1] (by decide) rfl) hT) rfl rfl hl.1 rfl (lv_room (Nat.le_of_ble_eq_true rfl)) d_Script_address_12 ⟨Nat.le_of_ble_eq_true rfl, Nat.le_of_ble_eq_true rfl⟩) hP hD hS hA [0, 1] [] rfl rfl (by decide) (by decide) (wr := []) (wn := fun _ => [(h, .inr (2, [.ref by_, .int (nI ln)])), (by_, .inl (cI, 300, .inl fb))]) (fun _ _ h9 => h9) (fun r5 _ H locs hp6 hP hD hS => ?_)
  have hP : va_P D cL [(h, .inr (2, [.ref by_, .int (nI ln)])), (by_, .inl (cI, 300, .inl fb))] H := hP
  have hD : va_D A [(h, .inr (2, [.ref by_, .int (nI ln)])), (by_, .inl (cI, 300, .inl fb))] := hD
  refine lv_ior hx hb d_Script_address_15 ?_
  refine lv_topi (fun z7 hz7 => ?_)
  exact end_i hx hb hr hlocks hS (u := ()) (r := z7) (at_end (hP.sub (ws' := [(h, .inr (2, [.ref by_, .int (nI ln)])), (by_, .inl (cI, 300, .inl fb))]) [0, 1] rfl) (hD.sub (ws' := [(h, .inr (2, [.ref by_, .int (nI ln)])), (by_, .inl (cI, 300, .inl fb))]) [0, 1] (by decide) rfl)) (trivial) (Nat.le_of_ble_eq_true rfl) (Nat.le_of_ble_eq_true rfl) d_Script_address_16

set_option maxHeartbeats 4000000 in
set_option maxRecDepth 100000 in
theorem s_number (l : Launch) (D : va_G) (cI cZ cJ : ClassId) (h by_ : Nat) (ln : Nat) (fb : Nat → Int32) (ad : Int32) (sz : Nat) (hln : ln ≤ 300) : Met l y_Script_number (.code y_Script_number prog_4_method_5_code 2 (some .int) :: AW) ({ frames := 2, cells := 0, slots := 0, locals := 42 }) (va_Pc [.ref h, .int ad] (pre_ D [(h, .inr (2, [.ref by_, .int (nI ln)])), (by_, .inl (cI, 300, .inl fb))] [(cI, .int), (cZ, .boolean), (cJ, .long)] sz)) (va_Qi (fun (r : Int32) (u : Unit) => True) (fun _ t => post_ D (va_A [(h, .inr (2, [.ref by_, .int (nI ln)])), (by_, .inl (cI, 300, .inl fb))] sz) [(h, .inr (2, [.ref by_, .int (nI ln)])), (by_, .inl (cI, 300, .inl fb))] t) (va_A [(h, .inr (2, [.ref by_, .int (nI ln)])), (by_, .inl (cI, 300, .inl fb))] sz)) 0 0 (va_A [(h, .inr (2, [.ref by_, .int (nI ln)])), (by_, .inl (cI, 300, .inl fb))] sz) := by
  refine Met.ofW (cc := prog_4_method_5_code) (maxL := 2) (ret := (some .int)) (by decide) rfl ?_
  intro p e s m args below meth c s₁ B hml hv
  obtain ⟨rfl, rfl, hP, hK, hD0, hT⟩ := hv
  have hx := B.exec
  have hb := B.bytes
  have hr := B.returns
  have hts0 := atoms_spec (ws := .code y_Script_number prog_4_method_5_code 2 (some .int) :: AW) B.pre
  have hts : ∀ w ∈ AW, w.before [.ref h, .int ad].toArray s = true := fun w h => hts0 w (List.mem_cons_of_mem _ h)
  have hown : s.vm.findClass "TaleMachine$Script" = some m.cls := findClass_of_methodNamed B.named
  have hlocks := B.notSynchronized
  have hD := hD0.self (sz := s.heap.size)
  generalize hAe : va_A [(h, .inr (2, [.ref by_, .int (nI ln)])), (by_, .inl (cI, 300, .inl fb))] s.heap.size = A at hD ⊢
  have hA : ∀ q : Nat, s.heap.size ≤ q → A q := fun q h => by rw [← hAe]; exact Or.inr h
  have hS : va_S A s.heap s.heap [] := va_S.rf
  have hl := lv_entry ([.ref h, .int ad]) (n := 2) (Nat.le_of_ble_eq_true rfl)
  rw [lg_entry_eq]
  generalize (lg_sl ([.ref h, .int ad]) ++ List.replicate (2 - (lg_sl ([.ref h, .int ad])).length) Slot.unset).toArray = ls at hl ⊢
  have hl : lv_has ls 2 [(0, .ref h), (1, .int ad)] := hl
  refine lv_aload_n hx hb d_Script_number_0 rfl (lv_at hl 0 rfl) ?_
  refine lv_iload_n hx hb d_Script_number_1 rfl (lv_at hl 1 rfl) ?_
  refine mv_i (va_runV (C := "TaleMachine$Script") (As := [.int ad]) (rest := []) ⟨hx, hb, hml, hown, hts⟩ (s_address l D cI cZ cJ h by_ ln fb ad _ (by first | assumption | omega | decide)) (cwV 1 hts (gInV k_227 k_228 k_229 k_2 k_230) rfl rfl rfl (by decide +kernel) ⟨Nat.le_of_ble_eq_true rfl, Nat.le_of_ble_eq_true rfl⟩) (pre_V (va_recv hK hP (q := ("TaleMachine$Script", F_Script, 2)) rfl (q0 := 0) rfl) (hP.sub [0, 1] rfl) (hK.sub [0, 1, 2] rfl) (hD.sub [0, 1] (by decide) rfl) hT) rfl rfl hl.1 rfl (lv_room (Nat.le_of_ble_eq_true rfl)) d_Script_number_2 ⟨Nat.le_of_ble_eq_true rfl, Nat.le_of_ble_eq_true rfl⟩) hP hD hS hA [0, 1] [] rfl rfl (by decide) (by decide) (wr := []) (wn := fun _ => [(h, .inr (2, [.ref by_, .int (nI ln)])), (by_, .inl (cI, 300, .inl fb))]) (fun _ _ h9 => h9) (fun r1 _ H locs hp2 hP hD hS => ?_)
  have hP : va_P D cL [(h, .inr (2, [.ref by_, .int (nI ln)])), (by_, .inl (cI, 300, .inl fb))] H := hP
  have hD : va_D A [(h, .inr (2, [.ref by_, .int (nI ln)])), (by_, .inl (cI, 300, .inl fb))] := hD
  refine lv_bipush (v := 16) hx hb d_Script_number_5 (by decide) ?_
  refine lv_ishl hx hb d_Script_number_7 ?_
  refine lv_topi (fun z3 hz3 => ?_)
  refine lv_aload_n hx hb d_Script_number_8 rfl (lv_at hl 0 rfl) ?_
  refine lv_iload_n hx hb d_Script_number_9 rfl (lv_at hl 1 rfl) ?_
  refine lv_iconst (v := 2) hx hb d_Script_number_10 (by decide) ?_
  refine lv_iadd hx hb d_Script_number_11 ?_
  refine lv_topi (fun z4 hz4 => ?_)
  refine mv_i (va_runV (C := "TaleMachine$Script") (As := [.int z4]) (rest := [.int z3]) ⟨hx, hb, hml, hown, hts⟩ (s_address l D cI cZ cJ h by_ ln fb z4 _ (by first | assumption | omega | decide)) (cwV 1 hts (gInV k_227 k_228 k_229 k_2 k_230) rfl rfl rfl (by decide +kernel) ⟨Nat.le_of_ble_eq_true rfl, Nat.le_of_ble_eq_true rfl⟩) (pre_V (va_recv hK hP (q := ("TaleMachine$Script", F_Script, 2)) rfl (q0 := 0) rfl) (hP.sub [0, 1] rfl) (hK.sub [0, 1, 2] rfl) (hD.sub [0, 1] (by decide) rfl) hT) rfl rfl hl.1 rfl (lv_room (Nat.le_of_ble_eq_true rfl)) d_Script_number_12 ⟨Nat.le_of_ble_eq_true rfl, Nat.le_of_ble_eq_true rfl⟩) hP hD hS hA [0, 1] [] rfl rfl (by decide) (by decide) (wr := []) (wn := fun _ => [(h, .inr (2, [.ref by_, .int (nI ln)])), (by_, .inl (cI, 300, .inl fb))]) (fun _ _ h9 => h9) (fun r5 _ H locs hp6 hP hD hS => ?_)
  have hP : va_P D cL [(h, .inr (2, [.ref by_, .int (nI ln)])), (by_, .inl (cI, 300, .inl fb))] H := hP
  have hD : va_D A [(h, .inr (2, [.ref by_, .int (nI ln)])), (by_, .inl (cI, 300, .inl fb))] := hD
  refine lv_ior hx hb d_Script_number_15 ?_
  refine lv_topi (fun z7 hz7 => ?_)
  exact end_i hx hb hr hlocks hS (u := ()) (r := z7) (at_end (hP.sub (ws' := [(h, .inr (2, [.ref by_, .int (nI ln)])), (by_, .inl (cI, 300, .inl fb))]) [0, 1] rfl) (hD.sub (ws' := [(h, .inr (2, [.ref by_, .int (nI ln)])), (by_, .inl (cI, 300, .inl fb))]) [0, 1] (by decide) rfl)) (trivial) (Nat.le_of_ble_eq_true rfl) (Nat.le_of_ble_eq_true rfl) d_Script_number_16

set_option maxHeartbeats 4000000 in
set_option maxRecDepth 100000 in
theorem s_locals (l : Launch) (D : va_G) (cI cZ cJ : ClassId) (h by_ : Nat) (ln : Nat) (fb : Nat → Int32) (ad : Int32) (sz : Nat) (hln : ln ≤ 300) : Met l y_Script_locals (.code y_Script_locals prog_4_method_9_code 2 (some .int) :: AW) ({ frames := 1, cells := 0, slots := 0, locals := 21 }) (va_Pc [.ref h, .int ad] (pre_ D [(h, .inr (2, [.ref by_, .int (nI ln)])), (by_, .inl (cI, 300, .inl fb))] [(cI, .int), (cZ, .boolean), (cJ, .long)] sz)) (va_Qi (fun (r : Int32) (u : Unit) => True) (fun _ t => post_ D (va_A [(h, .inr (2, [.ref by_, .int (nI ln)])), (by_, .inl (cI, 300, .inl fb))] sz) [(h, .inr (2, [.ref by_, .int (nI ln)])), (by_, .inl (cI, 300, .inl fb))] t) (va_A [(h, .inr (2, [.ref by_, .int (nI ln)])), (by_, .inl (cI, 300, .inl fb))] sz)) 0 0 (va_A [(h, .inr (2, [.ref by_, .int (nI ln)])), (by_, .inl (cI, 300, .inl fb))] sz) := by
  refine Met.ofW (cc := prog_4_method_9_code) (maxL := 2) (ret := (some .int)) (by decide) rfl ?_
  intro p e s m args below meth c s₁ B hml hv
  obtain ⟨rfl, rfl, hP, hK, hD0, hT⟩ := hv
  have hx := B.exec
  have hb := B.bytes
  have hr := B.returns
  have hts0 := atoms_spec (ws := .code y_Script_locals prog_4_method_9_code 2 (some .int) :: AW) B.pre
  have hts : ∀ w ∈ AW, w.before [.ref h, .int ad].toArray s = true := fun w h => hts0 w (List.mem_cons_of_mem _ h)
  have hown : s.vm.findClass "TaleMachine$Script" = some m.cls := findClass_of_methodNamed B.named
  have hlocks := B.notSynchronized
  have hD := hD0.self (sz := s.heap.size)
  generalize hAe : va_A [(h, .inr (2, [.ref by_, .int (nI ln)])), (by_, .inl (cI, 300, .inl fb))] s.heap.size = A at hD ⊢
  have hA : ∀ q : Nat, s.heap.size ≤ q → A q := fun q h => by rw [← hAe]; exact Or.inr h
  have hS : va_S A s.heap s.heap [] := va_S.rf
  have hl := lv_entry ([.ref h, .int ad]) (n := 2) (Nat.le_of_ble_eq_true rfl)
  rw [lg_entry_eq]
  generalize (lg_sl ([.ref h, .int ad]) ++ List.replicate (2 - (lg_sl ([.ref h, .int ad])).length) Slot.unset).toArray = ls at hl ⊢
  have hl : lv_has ls 2 [(0, .ref h), (1, .int ad)] := hl
  refine lv_aload_n hx hb d_Script_locals_0 rfl (lv_at hl 0 rfl) ?_
  refine lv_iload_n hx hb d_Script_locals_1 rfl (lv_at hl 1 rfl) ?_
  refine lv_iconst (v := 1) hx hb d_Script_locals_2 (by decide) ?_
  refine lv_iadd hx hb d_Script_locals_3 ?_
  refine lv_topi (fun z1 hz1 => ?_)
  refine mv_i (va_runV (C := "TaleMachine$Script") (As := [.int z1]) (rest := []) ⟨hx, hb, hml, hown, hts⟩ (s_at l D cI cZ cJ h by_ ln fb z1 _ (by first | assumption | omega | decide)) (cwV 1 hts (gInV k_203 k_204 k_205 k_2 k_206) rfl rfl rfl (by decide +kernel) ⟨Nat.le_of_ble_eq_true rfl, Nat.le_of_ble_eq_true rfl⟩) (pre_V (va_recv hK hP (q := ("TaleMachine$Script", F_Script, 2)) rfl (q0 := 0) rfl) (hP.sub [0, 1] rfl) (hK.sub [0, 1, 2] rfl) (hD.sub [0, 1] (by decide) rfl) hT) rfl rfl hl.1 rfl (lv_room (Nat.le_of_ble_eq_true rfl)) d_Script_locals_4 ⟨Nat.le_of_ble_eq_true rfl, Nat.le_of_ble_eq_true rfl⟩) hP hD hS hA [0, 1] [] rfl rfl (by decide) (by decide) (wr := []) (wn := fun _ => [(h, .inr (2, [.ref by_, .int (nI ln)])), (by_, .inl (cI, 300, .inl fb))]) (fun _ _ h9 => h9) (fun r2 _ H locs hp3 hP hD hS => ?_)
  have hP : va_P D cL [(h, .inr (2, [.ref by_, .int (nI ln)])), (by_, .inl (cI, 300, .inl fb))] H := hP
  have hD : va_D A [(h, .inr (2, [.ref by_, .int (nI ln)])), (by_, .inl (cI, 300, .inl fb))] := hD
  exact end_i hx hb hr hlocks hS (u := ()) (r := r2) (at_end (hP.sub (ws' := [(h, .inr (2, [.ref by_, .int (nI ln)])), (by_, .inl (cI, 300, .inl fb))]) [0, 1] rfl) (hD.sub (ws' := [(h, .inr (2, [.ref by_, .int (nI ln)])), (by_, .inl (cI, 300, .inl fb))]) [0, 1] (by decide) rfl)) (trivial) (Nat.le_of_ble_eq_true rfl) (Nat.le_of_ble_eq_true rfl) d_Script_locals_7

set_option maxHeartbeats 4000000 in
set_option maxRecDepth 100000 in
theorem s_beginning (l : Launch) (D : va_G) (cI cZ cJ : ClassId) (h by_ : Nat) (ln : Nat) (fb : Nat → Int32) (ad : Int32) (sz : Nat) (hln : ln ≤ 300) : Met l y_Script_beginning (.code y_Script_beginning prog_4_method_10_code 2 (some .int) :: AW) ({ frames := 1, cells := 0, slots := 0, locals := 21 }) (va_Pc [.ref h, .int ad] (pre_ D [(h, .inr (2, [.ref by_, .int (nI ln)])), (by_, .inl (cI, 300, .inl fb))] [(cI, .int), (cZ, .boolean), (cJ, .long)] sz)) (va_Qi (fun (r : Int32) (u : Unit) => True) (fun _ t => post_ D (va_A [(h, .inr (2, [.ref by_, .int (nI ln)])), (by_, .inl (cI, 300, .inl fb))] sz) [(h, .inr (2, [.ref by_, .int (nI ln)])), (by_, .inl (cI, 300, .inl fb))] t) (va_A [(h, .inr (2, [.ref by_, .int (nI ln)])), (by_, .inl (cI, 300, .inl fb))] sz)) 0 0 (va_A [(h, .inr (2, [.ref by_, .int (nI ln)])), (by_, .inl (cI, 300, .inl fb))] sz) := by
  refine Met.ofW (cc := prog_4_method_10_code) (maxL := 2) (ret := (some .int)) (by decide) rfl ?_
  intro p e s m args below meth c s₁ B hml hv
  obtain ⟨rfl, rfl, hP, hK, hD0, hT⟩ := hv
  have hx := B.exec
  have hb := B.bytes
  have hr := B.returns
  have hts0 := atoms_spec (ws := .code y_Script_beginning prog_4_method_10_code 2 (some .int) :: AW) B.pre
  have hts : ∀ w ∈ AW, w.before [.ref h, .int ad].toArray s = true := fun w h => hts0 w (List.mem_cons_of_mem _ h)
  have hown : s.vm.findClass "TaleMachine$Script" = some m.cls := findClass_of_methodNamed B.named
  have hlocks := B.notSynchronized
  have hD := hD0.self (sz := s.heap.size)
  generalize hAe : va_A [(h, .inr (2, [.ref by_, .int (nI ln)])), (by_, .inl (cI, 300, .inl fb))] s.heap.size = A at hD ⊢
  have hA : ∀ q : Nat, s.heap.size ≤ q → A q := fun q h => by rw [← hAe]; exact Or.inr h
  have hS : va_S A s.heap s.heap [] := va_S.rf
  have hl := lv_entry ([.ref h, .int ad]) (n := 2) (Nat.le_of_ble_eq_true rfl)
  rw [lg_entry_eq]
  generalize (lg_sl ([.ref h, .int ad]) ++ List.replicate (2 - (lg_sl ([.ref h, .int ad])).length) Slot.unset).toArray = ls at hl ⊢
  have hl : lv_has ls 2 [(0, .ref h), (1, .int ad)] := hl
  refine lv_iload_n hx hb d_Script_beginning_0 rfl (lv_at hl 1 rfl) ?_
  refine lv_iconst (v := 3) hx hb d_Script_beginning_1 (by decide) ?_
  refine lv_iadd hx hb d_Script_beginning_2 ?_
  refine lv_topi (fun z1 hz1 => ?_)
  refine lv_iconst (v := 4) hx hb d_Script_beginning_3 (by decide) ?_
  refine lv_aload_n hx hb d_Script_beginning_4 rfl (lv_at hl 0 rfl) ?_
  refine lv_iload_n hx hb d_Script_beginning_5 rfl (lv_at hl 1 rfl) ?_
  refine lv_iconst (v := 2) hx hb d_Script_beginning_6 (by decide) ?_
  refine lv_iadd hx hb d_Script_beginning_7 ?_
  refine lv_topi (fun z2 hz2 => ?_)
  refine mv_i (va_runV (C := "TaleMachine$Script") (As := [.int z2]) (rest := [.int 4, .int z1]) ⟨hx, hb, hml, hown, hts⟩ (s_at l D cI cZ cJ h by_ ln fb z2 _ (by first | assumption | omega | decide)) (cwV 1 hts (gInV k_203 k_204 k_205 k_2 k_206) rfl rfl rfl (by decide +kernel) ⟨Nat.le_of_ble_eq_true rfl, Nat.le_of_ble_eq_true rfl⟩) (pre_V (va_recv hK hP (q := ("TaleMachine$Script", F_Script, 2)) rfl (q0 := 0) rfl) (hP.sub [0, 1] rfl) (hK.sub [0, 1, 2] rfl) (hD.sub [0, 1] (by decide) rfl) hT) rfl rfl hl.1 rfl (lv_room (Nat.le_of_ble_eq_true rfl)) d_Script_beginning_8 ⟨Nat.le_of_ble_eq_true rfl, Nat.le_of_ble_eq_true rfl⟩) hP hD hS hA [0, 1] [] rfl rfl (by decide) (by decide) (wr := []) (wn := fun _ => [(h, .inr (2, [.ref by_, .int (nI ln)])), (by_, .inl (cI, 300, .inl fb))]) (fun _ _ h9 => h9) (fun r3 _ H locs hp4 hP hD hS => ?_)
  have hP : va_P D cL [(h, .inr (2, [.ref by_, .int (nI ln)])), (by_, .inl (cI, 300, .inl fb))] H := hP
  have hD : va_D A [(h, .inr (2, [.ref by_, .int (nI ln)])), (by_, .inl (cI, 300, .inl fb))] := hD
  refine lv_imul hx hb d_Script_beginning_11 ?_
  refine lv_topi (fun z5 hz5 => ?_)
  refine lv_iadd hx hb d_Script_beginning_12 ?_
  refine lv_topi (fun z6 hz6 => ?_)
  exact end_i hx hb hr hlocks hS (u := ()) (r := z6) (at_end (hP.sub (ws' := [(h, .inr (2, [.ref by_, .int (nI ln)])), (by_, .inl (cI, 300, .inl fb))]) [0, 1] rfl) (hD.sub (ws' := [(h, .inr (2, [.ref by_, .int (nI ln)])), (by_, .inl (cI, 300, .inl fb))]) [0, 1] (by decide) rfl)) (trivial) (Nat.le_of_ble_eq_true rfl) (Nat.le_of_ble_eq_true rfl) d_Script_beginning_13

set_option maxHeartbeats 4000000 in
set_option maxRecDepth 100000 in
theorem s_isMethod (l : Launch) (D : va_G) (cI cZ cJ : ClassId) (h by_ : Nat) (ln : Nat) (fb : Nat → Int32) (ad ag : Int32) (sz : Nat) (hln : ln ≤ 300) : Met l y_Script_isMethod (.code y_Script_isMethod prog_4_method_8_code 5 (some .boolean) :: AW) ({ frames := 1, cells := 0, slots := 0, locals := 21 }) (va_Pc [.ref h, .int ad, .int ag] (pre_ D [(h, .inr (2, [.ref by_, .int (nI ln)])), (by_, .inl (cI, 300, .inl fb))] [(cI, .int), (cZ, .boolean), (cJ, .long)] sz)) (va_Qi (fun (r : Int32) (u : Unit) => r = 0 ∨ r = 1) (fun _ t => post_ D (va_A [(h, .inr (2, [.ref by_, .int (nI ln)])), (by_, .inl (cI, 300, .inl fb))] sz) [(h, .inr (2, [.ref by_, .int (nI ln)])), (by_, .inl (cI, 300, .inl fb))] t) (va_A [(h, .inr (2, [.ref by_, .int (nI ln)])), (by_, .inl (cI, 300, .inl fb))] sz)) 0 0 (va_A [(h, .inr (2, [.ref by_, .int (nI ln)])), (by_, .inl (cI, 300, .inl fb))] sz) := by
  refine Met.ofW (cc := prog_4_method_8_code) (maxL := 5) (ret := (some .boolean)) (by decide) rfl ?_
  intro p e s m args below meth c s₁ B hml hv
  obtain ⟨rfl, rfl, hP, hK, hD0, hT⟩ := hv
  have hx := B.exec
  have hb := B.bytes
  have hr := B.returns
  have hts0 := atoms_spec (ws := .code y_Script_isMethod prog_4_method_8_code 5 (some .boolean) :: AW) B.pre
  have hts : ∀ w ∈ AW, w.before [.ref h, .int ad, .int ag].toArray s = true := fun w h => hts0 w (List.mem_cons_of_mem _ h)
  have hown : s.vm.findClass "TaleMachine$Script" = some m.cls := findClass_of_methodNamed B.named
  have hlocks := B.notSynchronized
  have hD := hD0.self (sz := s.heap.size)
  generalize hAe : va_A [(h, .inr (2, [.ref by_, .int (nI ln)])), (by_, .inl (cI, 300, .inl fb))] s.heap.size = A at hD ⊢
  have hA : ∀ q : Nat, s.heap.size ≤ q → A q := fun q h => by rw [← hAe]; exact Or.inr h
  have hS : va_S A s.heap s.heap [] := va_S.rf
  have hl := lv_entry ([.ref h, .int ad, .int ag]) (n := 5) (Nat.le_of_ble_eq_true rfl)
  rw [lg_entry_eq]
  generalize (lg_sl ([.ref h, .int ad, .int ag]) ++ List.replicate (5 - (lg_sl ([.ref h, .int ad, .int ag])).length) Slot.unset).toArray = ls at hl ⊢
  have hl : lv_has ls 5 [(0, .ref h), (1, .int ad), (2, .int ag)] := hl
  refine lv_aload_n hx hb d_Script_isMethod_0 rfl (lv_at hl 0 rfl) ?_
  refine lv_iload_n hx hb d_Script_isMethod_1 rfl (lv_at hl 1 rfl) ?_
  refine lv_iconst (v := 1) hx hb d_Script_isMethod_2 (by decide) ?_
  refine lv_iadd hx hb d_Script_isMethod_3 ?_
  refine lv_topi (fun z1 hz1 => ?_)
  refine mv_i (va_runV (C := "TaleMachine$Script") (As := [.int z1]) (rest := []) ⟨hx, hb, hml, hown, hts⟩ (s_at l D cI cZ cJ h by_ ln fb z1 _ (by first | assumption | omega | decide)) (cwV 1 hts (gInV k_203 k_204 k_205 k_2 k_206) rfl rfl rfl (by decide +kernel) ⟨Nat.le_of_ble_eq_true rfl, Nat.le_of_ble_eq_true rfl⟩) (pre_V (va_recv hK hP (q := ("TaleMachine$Script", F_Script, 2)) rfl (q0 := 0) rfl) (hP.sub [0, 1] rfl) (hK.sub [0, 1, 2] rfl) (hD.sub [0, 1] (by decide) rfl) hT) rfl rfl hl.1 rfl (lv_room (Nat.le_of_ble_eq_true rfl)) d_Script_isMethod_4 ⟨Nat.le_of_ble_eq_true rfl, Nat.le_of_ble_eq_true rfl⟩) hP hD hS hA [0, 1] [] rfl rfl (by decide) (by decide) (wr := []) (wn := fun _ => [(h, .inr (2, [.ref by_, .int (nI ln)])), (by_, .inl (cI, 300, .inl fb))]) (fun _ _ h9 => h9) (fun r2 _ H locs hp3 hP hD hS => ?_)
  have hP : va_P D cL [(h, .inr (2, [.ref by_, .int (nI ln)])), (by_, .inl (cI, 300, .inl fb))] H := hP
  have hD : va_D A [(h, .inr (2, [.ref by_, .int (nI ln)])), (by_, .inl (cI, 300, .inl fb))] := hD
  refine lv_istore_n (lv' := [(3, .int r2), (0, .ref h), (1, .int ad), (2, .int ag)]) hx hb d_Script_isMethod_7 rfl hl (by decide) rfl (fun ls hl => ?_)
  refine lv_aload_n hx hb d_Script_isMethod_8 rfl (lv_at hl 1 rfl) ?_
  refine lv_iload_n hx hb d_Script_isMethod_9 rfl (lv_at hl 2 rfl) ?_
  refine lv_iconst (v := 2) hx hb d_Script_isMethod_10 (by decide) ?_
  refine lv_iadd hx hb d_Script_isMethod_11 ?_
  refine lv_topi (fun z4 hz4 => ?_)
  refine mv_i (va_runV (C := "TaleMachine$Script") (As := [.int z4]) (rest := []) ⟨hx, hb, hml, hown, hts⟩ (s_at l D cI cZ cJ h by_ ln fb z4 _ (by first | assumption | omega | decide)) (cwV 1 hts (gInV k_203 k_204 k_205 k_2 k_206) rfl rfl rfl (by decide +kernel) ⟨Nat.le_of_ble_eq_true rfl, Nat.le_of_ble_eq_true rfl⟩) (pre_V (va_recv hK hP (q := ("TaleMachine$Script", F_Script, 2)) rfl (q0 := 0) rfl) (hP.sub [0, 1] rfl) (hK.sub [0, 1, 2] rfl) (hD.sub [0, 1] (by decide) rfl) hT) rfl rfl hl.1 rfl (lv_room (Nat.le_of_ble_eq_true rfl)) d_Script_isMethod_12 ⟨Nat.le_of_ble_eq_true rfl, Nat.le_of_ble_eq_true rfl⟩) hP hD hS hA [0, 1] [] rfl rfl (by decide) (by decide) (wr := []) (wn := fun _ => [(h, .inr (2, [.ref by_, .int (nI ln)])), (by_, .inl (cI, 300, .inl fb))]) (fun _ _ h9 => h9) (fun r5 _ H locs hp6 hP hD hS => ?_)
  have hP : va_P D cL [(h, .inr (2, [.ref by_, .int (nI ln)])), (by_, .inl (cI, 300, .inl fb))] H := hP
  have hD : va_D A [(h, .inr (2, [.ref by_, .int (nI ln)])), (by_, .inl (cI, 300, .inl fb))] := hD
  refine lv_istore (lv' := [(4, .int r5), (3, .int r2), (0, .ref h), (1, .int ad), (2, .int ag)]) hx hb d_Script_isMethod_15 hl (by decide) rfl (fun ls hl => ?_)
  refine lv_iload_n hx hb d_Script_isMethod_17 rfl (lv_at hl 4 rfl) ?_
  refine lv_iconst (v := 3) hx hb d_Script_isMethod_18 (by decide) ?_
  refine lv_icmp_gt hx hb d_Script_isMethod_19 (tgt := 72) (by decide) (fun hc7 => ?_) (fun hc7 => ?_)
  · refine lv_iconst (v := 0) hx hb d_Script_isMethod_72 (by decide) ?_
    exact end_z hx hb hr hlocks hS (u := ()) (r := 0) (at_end (hP.sub (ws' := [(h, .inr (2, [.ref by_, .int (nI ln)])), (by_, .inl (cI, 300, .inl fb))]) [0, 1] rfl) (hD.sub (ws' := [(h, .inr (2, [.ref by_, .int (nI ln)])), (by_, .inl (cI, 300, .inl fb))]) [0, 1] (by decide) rfl)) (Or.inl rfl) (by decide) (Nat.le_of_ble_eq_true rfl) (Nat.le_of_ble_eq_true rfl) d_Script_isMethod_73
  · refine lv_aload_n hx hb d_Script_isMethod_22 rfl (lv_at hl 2 rfl) ?_
    refine lv_iload_n hx hb d_Script_isMethod_23 rfl (lv_at hl 3 rfl) ?_
    refine mv_i (va_runV (C := "TaleMachine$Script") (As := [.int ad]) (rest := []) ⟨hx, hb, hml, hown, hts⟩ (s_at l D cI cZ cJ h by_ ln fb ad _ (by first | assumption | omega | decide)) (cwV 1 hts (gInV k_203 k_204 k_205 k_2 k_206) rfl rfl rfl (by decide +kernel) ⟨Nat.le_of_ble_eq_true rfl, Nat.le_of_ble_eq_true rfl⟩) (pre_V (va_recv hK hP (q := ("TaleMachine$Script", F_Script, 2)) rfl (q0 := 0) rfl) (hP.sub [0, 1] rfl) (hK.sub [0, 1, 2] rfl) (hD.sub [0, 1] (by decide) rfl) hT) rfl rfl hl.1 rfl (lv_room (Nat.le_of_ble_eq_true rfl)) d_Script_isMethod_24 ⟨Nat.le_of_ble_eq_true rfl, Nat.le_of_ble_eq_true rfl⟩) hP hD hS hA [0, 1] [] rfl rfl (by decide) (by decide) (wr := []) (wn := fun _ => [(h, .inr (2, [.ref by_, .int (nI ln)])), (by_, .inl (cI, 300, .inl fb))]) (fun _ _ h9 => h9) (fun r8 _ H locs hp9 hP hD hS => ?_)
    have hP : va_P D cL [(h, .inr (2, [.ref by_, .int (nI ln)])), (by_, .inl (cI, 300, .inl fb))] H := hP
    have hD : va_D A [(h, .inr (2, [.ref by_, .int (nI ln)])), (by_, .inl (cI, 300, .inl fb))] := hD
    refine lv_iload_n hx hb d_Script_isMethod_27 rfl (lv_at hl 4 rfl) ?_
    refine lv_icmp_ne hx hb d_Script_isMethod_28 (tgt := 72) (by decide) (fun hc10 => ?_) (fun hc10 => ?_)
    · refine lv_iconst (v := 0) hx hb d_Script_isMethod_72 (by decide) ?_
      exact end_z hx hb hr hlocks hS (u := ()) (r := 0) (at_end (hP.sub (ws' := [(h, .inr (2, [.ref by_, .int (nI ln)])), (by_, .inl (cI, 300, .inl fb))]) [0, 1] rfl) (hD.sub (ws' := [(h, .inr (2, [.ref by_, .int (nI ln)])), (by_, .inl (cI, 300, .inl fb))]) [0, 1] (by decide) rfl)) (Or.inl rfl) (by decide) (Nat.le_of_ble_eq_true rfl) (Nat.le_of_ble_eq_true rfl) d_Script_isMethod_73
    · refine lv_iload_n hx hb d_Script_isMethod_31 rfl (lv_at hl 1 rfl) ?_
      refine lv_iconst (v := (-1)) hx hb d_Script_isMethod_32 (by decide) ?_
      refine lv_icmp_eq hx hb d_Script_isMethod_33 (tgt := 72) (by decide) (fun hc11 => ?_) (fun hc11 => ?_)
      · refine lv_iconst (v := 0) hx hb d_Script_isMethod_72 (by decide) ?_
        exact end_z hx hb hr hlocks hS (u := ()) (r := 0) (at_end (hP.sub (ws' := [(h, .inr (2, [.ref by_, .int (nI ln)])), (by_, .inl (cI, 300, .inl fb))]) [0, 1] rfl) (hD.sub (ws' := [(h, .inr (2, [.ref by_, .int (nI ln)])), (by_, .inl (cI, 300, .inl fb))]) [0, 1] (by decide) rfl)) (Or.inl rfl) (by decide) (Nat.le_of_ble_eq_true rfl) (Nat.le_of_ble_eq_true rfl) d_Script_isMethod_73
      · refine lv_iload_n hx hb d_Script_isMethod_36 rfl (lv_at hl 1 rfl) ?_
        refine lv_iconst (v := 3) hx hb d_Script_isMethod_37 (by decide) ?_
        refine lv_icmp_gt hx hb d_Script_isMethod_38 (tgt := 72) (by decide) (fun hc12 => ?_) (fun hc12 => ?_)
        · refine lv_iconst (v := 0) hx hb d_Script_isMethod_72 (by decide) ?_
          exact end_z hx hb hr hlocks hS (u := ()) (r := 0) (at_end (hP.sub (ws' := [(h, .inr (2, [.ref by_, .int (nI ln)])), (by_, .inl (cI, 300, .inl fb))]) [0, 1] rfl) (hD.sub (ws' := [(h, .inr (2, [.ref by_, .int (nI ln)])), (by_, .inl (cI, 300, .inl fb))]) [0, 1] (by decide) rfl)) (Or.inl rfl) (by decide) (Nat.le_of_ble_eq_true rfl) (Nat.le_of_ble_eq_true rfl) d_Script_isMethod_73
        · refine lv_iload hx hb d_Script_isMethod_41 (lv_at hl 0 rfl) ?_
          refine lv_iconst (v := (-1)) hx hb d_Script_isMethod_43 (by decide) ?_
          refine lv_icmp_eq hx hb d_Script_isMethod_44 (tgt := 72) (by decide) (fun hc13 => ?_) (fun hc13 => ?_)
          · refine lv_iconst (v := 0) hx hb d_Script_isMethod_72 (by decide) ?_
            exact end_z hx hb hr hlocks hS (u := ()) (r := 0) (at_end (hP.sub (ws' := [(h, .inr (2, [.ref by_, .int (nI ln)])), (by_, .inl (cI, 300, .inl fb))]) [0, 1] rfl) (hD.sub (ws' := [(h, .inr (2, [.ref by_, .int (nI ln)])), (by_, .inl (cI, 300, .inl fb))]) [0, 1] (by decide) rfl)) (Or.inl rfl) (by decide) (Nat.le_of_ble_eq_true rfl) (Nat.le_of_ble_eq_true rfl) d_Script_isMethod_73
          · refine lv_iload hx hb d_Script_isMethod_47 (lv_at hl 0 rfl) ?_
            refine lv_iconst (v := 3) hx hb d_Script_isMethod_49 (by decide) ?_
            refine lv_icmp_gt hx hb d_Script_isMethod_50 (tgt := 72) (by decide) (fun hc14 => ?_) (fun hc14 => ?_)
            · refine lv_iconst (v := 0) hx hb d_Script_isMethod_72 (by decide) ?_
              exact end_z hx hb hr hlocks hS (u := ()) (r := 0) (at_end (hP.sub (ws' := [(h, .inr (2, [.ref by_, .int (nI ln)])), (by_, .inl (cI, 300, .inl fb))]) [0, 1] rfl) (hD.sub (ws' := [(h, .inr (2, [.ref by_, .int (nI ln)])), (by_, .inl (cI, 300, .inl fb))]) [0, 1] (by decide) rfl)) (Or.inl rfl) (by decide) (Nat.le_of_ble_eq_true rfl) (Nat.le_of_ble_eq_true rfl) d_Script_isMethod_73
            · refine lv_iload_n hx hb d_Script_isMethod_53 rfl (lv_at hl 3 rfl) ?_
              refine lv_iconst (v := 3) hx hb d_Script_isMethod_54 (by decide) ?_
              refine lv_iadd hx hb d_Script_isMethod_55 ?_
              refine lv_topi (fun z15 hz15 => ?_)
              refine lv_iconst (v := 4) hx hb d_Script_isMethod_56 (by decide) ?_
              refine lv_iload hx hb d_Script_isMethod_57 (lv_at hl 0 rfl) ?_
              refine lv_imul hx hb d_Script_isMethod_59 ?_
              refine lv_topi (fun z16 hz16 => ?_)
              refine lv_iadd hx hb d_Script_isMethod_60 ?_
              refine lv_topi (fun z17 hz17 => ?_)
              refine lv_aload_n hx hb d_Script_isMethod_61 rfl (lv_at hl 2 rfl) ?_
              refine va_get (D := D) (ci := 2) (v := .int (nI ln)) (C := "TaleMachine$Script") (T := F_Script) (N := 2) hx hb hts in_Script hown hK hP 0 rfl rfl 1 (by decide) (hts _ k_33) (fun _ h9 => h9) rfl d_Script_isMethod_62 ?_
              refine lv_icmp_gt hx hb d_Script_isMethod_65 (tgt := 72) (by decide) (fun hc18 => ?_) (fun hc18 => ?_)
              · refine lv_iconst (v := 0) hx hb d_Script_isMethod_72 (by decide) ?_
                exact end_z hx hb hr hlocks hS (u := ()) (r := 0) (at_end (hP.sub (ws' := [(h, .inr (2, [.ref by_, .int (nI ln)])), (by_, .inl (cI, 300, .inl fb))]) [0, 1] rfl) (hD.sub (ws' := [(h, .inr (2, [.ref by_, .int (nI ln)])), (by_, .inl (cI, 300, .inl fb))]) [0, 1] (by decide) rfl)) (Or.inl rfl) (by decide) (Nat.le_of_ble_eq_true rfl) (Nat.le_of_ble_eq_true rfl) d_Script_isMethod_73
              · refine lv_iconst (v := 1) hx hb d_Script_isMethod_68 (by decide) ?_
                refine lv_goto hx hb d_Script_isMethod_69 (tgt := 73) (by decide) ?_
                exact end_z hx hb hr hlocks hS (u := ()) (r := 1) (at_end (hP.sub (ws' := [(h, .inr (2, [.ref by_, .int (nI ln)])), (by_, .inl (cI, 300, .inl fb))]) [0, 1] rfl) (hD.sub (ws' := [(h, .inr (2, [.ref by_, .int (nI ln)])), (by_, .inl (cI, 300, .inl fb))]) [0, 1] (by decide) rfl)) (Or.inr rfl) (by decide) (Nat.le_of_ble_eq_true rfl) (Nat.le_of_ble_eq_true rfl) d_Script_isMethod_73

set_option maxHeartbeats 4000000 in
set_option maxRecDepth 100000 in
theorem s_append_1 (l : Launch) (D : va_G) (cI cZ cJ : ClassId) (h by_ : Nat) (ln : Nat) (fb : Nat → Int32) (wd : Int32) (sz : Nat) (hln : ln ≤ 300) (hB : BY fb) : Met l y_Script_append (.code y_Script_append prog_4_method_2_code 4 (some .boolean) :: AW) ({ frames := 0, cells := 0, slots := 0, locals := 0 }) (va_Pc [.ref h, .int wd, .int 1] (pre_ D [(h, .inr (2, [.ref by_, .int (nI ln)])), (by_, .inl (cI, 300, .inl fb))] [(cI, .int), (cZ, .boolean), (cJ, .long)] sz)) (va_Qi (fun (r : Int32) (u : (Nat → Int32) × Nat) => BY u.1 ∧ ((r = 1 ∧ ln + 1 ≤ 300 ∧ u.2 = ln + 1) ∨ (r = 0 ∧ ¬ ln + 1 ≤ 300 ∧ u.2 = ln))) (fun u t => match u with | (fb2, ln2) => post_ D (va_A [(h, .inr (2, [.ref by_, .int (nI ln)])), (by_, .inl (cI, 300, .inl fb))] sz) [(h, .inr (2, [.ref by_, .int (nI ln2)])), (by_, .inl (cI, 300, .inl fb2))] t) (va_A [(h, .inr (2, [.ref by_, .int (nI ln)])), (by_, .inl (cI, 300, .inl fb))] sz)) 0 0 (va_A [(h, .inr (2, [.ref by_, .int (nI ln)])), (by_, .inl (cI, 300, .inl fb))] sz) := by
  refine Met.ofW (cc := prog_4_method_2_code) (maxL := 4) (ret := (some .boolean)) (by decide) rfl ?_
  intro p e s m args below meth c s₁ B hml hv
  obtain ⟨rfl, rfl, hP, hK, hD0, hT⟩ := hv
  have hx := B.exec
  have hb := B.bytes
  have hr := B.returns
  have hts0 := atoms_spec (ws := .code y_Script_append prog_4_method_2_code 4 (some .boolean) :: AW) B.pre
  have hts : ∀ w ∈ AW, w.before [.ref h, .int wd, .int 1].toArray s = true := fun w h => hts0 w (List.mem_cons_of_mem _ h)
  have hown : s.vm.findClass "TaleMachine$Script" = some m.cls := findClass_of_methodNamed B.named
  have hlocks := B.notSynchronized
  have hD := hD0.self (sz := s.heap.size)
  generalize hAe : va_A [(h, .inr (2, [.ref by_, .int (nI ln)])), (by_, .inl (cI, 300, .inl fb))] s.heap.size = A at hD ⊢
  have hA : ∀ q : Nat, s.heap.size ≤ q → A q := fun q h => by rw [← hAe]; exact Or.inr h
  have hS : va_S A s.heap s.heap [] := va_S.rf
  have hl := lv_entry ([.ref h, .int wd, .int 1]) (n := 4) (Nat.le_of_ble_eq_true rfl)
  rw [lg_entry_eq]
  generalize (lg_sl ([.ref h, .int wd, .int 1]) ++ List.replicate (4 - (lg_sl ([.ref h, .int wd, .int 1])).length) Slot.unset).toArray = ls at hl ⊢
  have hl : lv_has ls 4 [(0, .ref h), (1, .int wd), (2, .int 1)] := hl
  refine lv_iload_n hx hb d_Script_append_0 rfl (lv_at hl 2 rfl) ?_
  refine lv_iconst (v := 1) hx hb d_Script_append_1 (by decide) ?_
  refine lv_icmp_lt hx hb d_Script_append_2 (tgt := 22) (by decide) (fun hz => absurd hz (by decide)) (fun _ => ?_)
  refine lv_iload_n hx hb d_Script_append_5 rfl (lv_at hl 2 rfl) ?_
  refine lv_iconst (v := 4) hx hb d_Script_append_6 (by decide) ?_
  refine lv_icmp_gt hx hb d_Script_append_7 (tgt := 22) (by decide) (fun hz => absurd hz (by decide)) (fun _ => ?_)
  refine lv_aload_n hx hb d_Script_append_10 rfl (lv_at hl 0 rfl) ?_
  refine va_get (D := D) (ci := 2) (v := .int (nI ln)) (C := "TaleMachine$Script") (T := F_Script) (N := 2) hx hb hts in_Script hown hK hP 0 rfl rfl 1 (by decide) (hts _ k_33) (fun _ h9 => h9) rfl d_Script_append_11 ?_
  refine lv_iload_n hx hb d_Script_append_14 rfl (lv_at hl 2 rfl) ?_
  refine lv_iadd hx hb d_Script_append_15 ?_
  refine lv_topi (fun z1 hz1 => ?_)
  obtain rfl : z1 = nI (ln + 1) := hz1.trans (nI_add ln 1)
  refine lv_sipush (v := 300) hx hb d_Script_append_16 (by decide) ?_
  refine lv_icmp_le hx hb d_Script_append_19 (tgt := 24) (by decide) (fun hc2 => ?_) (fun hc2 => ?_)
  · have hc2N : (ln + 1) ≤ 300 := (nI_leI (a := ln + 1) (b := 300) (by omega) (by omega)).mp hc2
    refine lv_iload_n hx hb d_Script_append_24 rfl (lv_at hl 2 rfl) ?_
    refine lv_iconst (v := 1) hx hb d_Script_append_25 (by decide) ?_
    refine lv_isub hx hb d_Script_append_26 ?_
    refine lv_topi (fun z3 hz3 => ?_)
    obtain rfl : z3 = 0 := hz3.trans (by decide)
    refine lv_istore_n (lv' := [(3, .int 0), (0, .ref h), (1, .int wd), (2, .int 1)]) hx hb d_Script_append_27 rfl hl (by decide) rfl (fun ls hl => ?_)
    refine lv_iload_n hx hb d_Script_append_28 rfl (lv_at hl 0 rfl) ?_
    refine lv_if_lt hx hb d_Script_append_29 (tgt := 67) (by decide) (fun hz => absurd hz (by decide)) (fun _ => ?_)
    refine lv_aload_n hx hb d_Script_append_32 rfl (lv_at hl 1 rfl) ?_
    refine va_get (D := D) (ci := 2) (v := .ref by_) (C := "TaleMachine$Script") (T := F_Script) (N := 2) hx hb hts in_Script hown hK hP 0 rfl rfl 0 (by decide) (hts _ k_32) (fun _ h9 => h9) rfl d_Script_append_33 ?_
    refine lv_aload_n hx hb d_Script_append_36 rfl (lv_at hl 1 rfl) ?_
    refine va_get (D := D) (ci := 2) (v := .int (nI ln)) (C := "TaleMachine$Script") (T := F_Script) (N := 2) hx hb hts in_Script hown hK hP 0 rfl rfl 1 (by decide) (hts _ k_33) (fun _ h9 => h9) rfl d_Script_append_37 ?_
    refine lv_iload_n hx hb d_Script_append_40 rfl (lv_at hl 2 rfl) ?_
    refine lv_bipush (v := 8) hx hb d_Script_append_41 (by decide) ?_
    refine lv_iload_n hx hb d_Script_append_43 rfl (lv_at hl 0 rfl) ?_
    refine lv_imul hx hb d_Script_append_44 ?_
    refine lv_topi (fun z4 hz4 => ?_)
    obtain rfl : z4 = 0 := hz4.trans (by decide)
    refine lv_iushr hx hb d_Script_append_45 rfl ?_
    refine lv_topi (fun z5 hz5 => ?_)
    refine lv_sipush (v := 255) hx hb d_Script_append_46 (by decide) ?_
    refine lv_iand hx hb d_Script_append_49 ?_
    refine lv_topi (fun z6 hz6 => ?_)
    obtain rfl : z6 = (z5 &&& 255) := hz6.trans (rfl)
    refine ia_st hx hb hK hP hD hS 1 0 rfl rfl (k := ln) (x := (z5 &&& 255)) (by omega) (by first | decide | assumption) d_Script_append_50 (fun H locs hP hD hS => ?_)
    have hP : va_P D cL [(h, .inr (2, [.ref by_, .int (nI ln)])), (by_, .inl (cI, 300, .inl (upd fb ln (z5 &&& 255))))] H := hP
    have hD : va_D A [(h, .inr (2, [.ref by_, .int (nI ln)])), (by_, .inl (cI, 300, .inl (upd fb ln (z5 &&& 255))))] := hD
    refine lv_aload_n hx hb d_Script_append_51 rfl (lv_at hl 1 rfl) ?_
    refine lv_dup hx hb d_Script_append_52 rfl ?_
    refine va_get (D := D) (ci := 2) (v := .int (nI ln)) (C := "TaleMachine$Script") (T := F_Script) (N := 2) hx hb hts in_Script hown hK hP 0 rfl rfl 1 (by decide) (hts _ k_33) (fun _ h9 => h9) rfl d_Script_append_53 ?_
    refine lv_iconst (v := 1) hx hb d_Script_append_56 (by decide) ?_
    refine lv_iadd hx hb d_Script_append_57 ?_
    refine lv_topi (fun z7 hz7 => ?_)
    obtain rfl : z7 = nI (ln + 1) := hz7.trans (nI_add ln 1)
    refine va_put (D := D) (ci := 2) (v := .int (nI (ln + 1))) (ty := .int) (C := "TaleMachine$Script") (T := F_Script) (N := 2) hx hb hts in_Script t_Script t_Script_ok n_Script hown hK hP hD hS 0 rfl rfl 1 (by decide) (hts _ k_33) (fun _ h9 => h9) rfl (by decide +kernel) rfl rfl (Nat.le_of_ble_eq_true rfl) d_Script_append_58 (fun H locs hP hD hS => ?_)
    have hP : va_P D cL [(h, .inr (2, [.ref by_, .int (nI (ln + 1))])), (by_, .inl (cI, 300, .inl (upd fb ln (z5 &&& 255))))] H := hP
    have hD : va_D A [(h, .inr (2, [.ref by_, .int (nI (ln + 1))])), (by_, .inl (cI, 300, .inl (upd fb ln (z5 &&& 255))))] := hD
    refine lv_iinc (v := (-1)) (lv' := [(3, .int (-1)), (0, .ref h), (1, .int wd), (2, .int 1)]) hx hb d_Script_append_61 hl (k := 0) rfl (by decide) (by decide) rfl (fun ls hl => ?_)
    refine lv_goto hx hb d_Script_append_64 (tgt := 28) (by decide) ?_
    refine lv_iload_n hx hb d_Script_append_28 rfl (lv_at hl 0 rfl) ?_
    refine lv_if_lt hx hb d_Script_append_29 (tgt := 67) (by decide) (fun _ => ?_) (fun hz => absurd (by decide) hz)
    refine lv_iconst (v := 1) hx hb d_Script_append_67 (by decide) ?_
    exact end_z hx hb hr hlocks hS (u := (upd fb ln (z5 &&& 255), ln + 1)) (r := 1) (at_end (hP.sub (ws' := [(h, .inr (2, [.ref by_, .int (nI (ln + 1))])), (by_, .inl (cI, 300, .inl (upd fb ln (z5 &&& 255))))]) [0, 1] rfl) (hD.sub (ws' := [(h, .inr (2, [.ref by_, .int (nI (ln + 1))])), (by_, .inl (cI, 300, .inl (upd fb ln (z5 &&& 255))))]) [0, 1] (by decide) rfl)) (⟨BY.up (hB) _ (by_and _), Or.inl ⟨rfl, by omega, by omega⟩⟩) (by decide) (Nat.le_of_ble_eq_true rfl) (Nat.le_of_ble_eq_true rfl) d_Script_append_68
  · have hc2N : ¬ (ln + 1) ≤ 300 := fun z9 => hc2 ((nI_leI (a := ln + 1) (b := 300) (by omega) (by omega)).mpr z9)
    refine lv_iconst (v := 0) hx hb d_Script_append_22 (by decide) ?_
    exact end_z hx hb hr hlocks hS (u := (fb, ln)) (r := 0) (at_end (hP.sub (ws' := [(h, .inr (2, [.ref by_, .int (nI ln)])), (by_, .inl (cI, 300, .inl fb))]) [0, 1] rfl) (hD.sub (ws' := [(h, .inr (2, [.ref by_, .int (nI ln)])), (by_, .inl (cI, 300, .inl fb))]) [0, 1] (by decide) rfl)) (⟨hB, Or.inr ⟨rfl, by omega, rfl⟩⟩) (by decide) (Nat.le_of_ble_eq_true rfl) (Nat.le_of_ble_eq_true rfl) d_Script_append_23

set_option maxHeartbeats 4000000 in
set_option maxRecDepth 100000 in
theorem s_append_2 (l : Launch) (D : va_G) (cI cZ cJ : ClassId) (h by_ : Nat) (ln : Nat) (fb : Nat → Int32) (wd : Int32) (sz : Nat) (hln : ln ≤ 300) (hB : BY fb) : Met l y_Script_append (.code y_Script_append prog_4_method_2_code 4 (some .boolean) :: AW) ({ frames := 0, cells := 0, slots := 0, locals := 0 }) (va_Pc [.ref h, .int wd, .int 2] (pre_ D [(h, .inr (2, [.ref by_, .int (nI ln)])), (by_, .inl (cI, 300, .inl fb))] [(cI, .int), (cZ, .boolean), (cJ, .long)] sz)) (va_Qi (fun (r : Int32) (u : (Nat → Int32) × Nat) => BY u.1 ∧ ((r = 1 ∧ ln + 2 ≤ 300 ∧ u.2 = ln + 2) ∨ (r = 0 ∧ ¬ ln + 2 ≤ 300 ∧ u.2 = ln))) (fun u t => match u with | (fb2, ln2) => post_ D (va_A [(h, .inr (2, [.ref by_, .int (nI ln)])), (by_, .inl (cI, 300, .inl fb))] sz) [(h, .inr (2, [.ref by_, .int (nI ln2)])), (by_, .inl (cI, 300, .inl fb2))] t) (va_A [(h, .inr (2, [.ref by_, .int (nI ln)])), (by_, .inl (cI, 300, .inl fb))] sz)) 0 0 (va_A [(h, .inr (2, [.ref by_, .int (nI ln)])), (by_, .inl (cI, 300, .inl fb))] sz) := by
  refine Met.ofW (cc := prog_4_method_2_code) (maxL := 4) (ret := (some .boolean)) (by decide) rfl ?_
  intro p e s m args below meth c s₁ B hml hv
  obtain ⟨rfl, rfl, hP, hK, hD0, hT⟩ := hv
  have hx := B.exec
  have hb := B.bytes
  have hr := B.returns
  have hts0 := atoms_spec (ws := .code y_Script_append prog_4_method_2_code 4 (some .boolean) :: AW) B.pre
  have hts : ∀ w ∈ AW, w.before [.ref h, .int wd, .int 2].toArray s = true := fun w h => hts0 w (List.mem_cons_of_mem _ h)
  have hown : s.vm.findClass "TaleMachine$Script" = some m.cls := findClass_of_methodNamed B.named
  have hlocks := B.notSynchronized
  have hD := hD0.self (sz := s.heap.size)
  generalize hAe : va_A [(h, .inr (2, [.ref by_, .int (nI ln)])), (by_, .inl (cI, 300, .inl fb))] s.heap.size = A at hD ⊢
  have hA : ∀ q : Nat, s.heap.size ≤ q → A q := fun q h => by rw [← hAe]; exact Or.inr h
  have hS : va_S A s.heap s.heap [] := va_S.rf
  have hl := lv_entry ([.ref h, .int wd, .int 2]) (n := 4) (Nat.le_of_ble_eq_true rfl)
  rw [lg_entry_eq]
  generalize (lg_sl ([.ref h, .int wd, .int 2]) ++ List.replicate (4 - (lg_sl ([.ref h, .int wd, .int 2])).length) Slot.unset).toArray = ls at hl ⊢
  have hl : lv_has ls 4 [(0, .ref h), (1, .int wd), (2, .int 2)] := hl
  refine lv_iload_n hx hb d_Script_append_0 rfl (lv_at hl 2 rfl) ?_
  refine lv_iconst (v := 1) hx hb d_Script_append_1 (by decide) ?_
  refine lv_icmp_lt hx hb d_Script_append_2 (tgt := 22) (by decide) (fun hz => absurd hz (by decide)) (fun _ => ?_)
  refine lv_iload_n hx hb d_Script_append_5 rfl (lv_at hl 2 rfl) ?_
  refine lv_iconst (v := 4) hx hb d_Script_append_6 (by decide) ?_
  refine lv_icmp_gt hx hb d_Script_append_7 (tgt := 22) (by decide) (fun hz => absurd hz (by decide)) (fun _ => ?_)
  refine lv_aload_n hx hb d_Script_append_10 rfl (lv_at hl 0 rfl) ?_
  refine va_get (D := D) (ci := 2) (v := .int (nI ln)) (C := "TaleMachine$Script") (T := F_Script) (N := 2) hx hb hts in_Script hown hK hP 0 rfl rfl 1 (by decide) (hts _ k_33) (fun _ h9 => h9) rfl d_Script_append_11 ?_
  refine lv_iload_n hx hb d_Script_append_14 rfl (lv_at hl 2 rfl) ?_
  refine lv_iadd hx hb d_Script_append_15 ?_
  refine lv_topi (fun z1 hz1 => ?_)
  obtain rfl : z1 = nI (ln + 2) := hz1.trans (nI_add ln 2)
  refine lv_sipush (v := 300) hx hb d_Script_append_16 (by decide) ?_
  refine lv_icmp_le hx hb d_Script_append_19 (tgt := 24) (by decide) (fun hc2 => ?_) (fun hc2 => ?_)
  · have hc2N : (ln + 2) ≤ 300 := (nI_leI (a := ln + 2) (b := 300) (by omega) (by omega)).mp hc2
    refine lv_iload_n hx hb d_Script_append_24 rfl (lv_at hl 2 rfl) ?_
    refine lv_iconst (v := 1) hx hb d_Script_append_25 (by decide) ?_
    refine lv_isub hx hb d_Script_append_26 ?_
    refine lv_topi (fun z3 hz3 => ?_)
    obtain rfl : z3 = 1 := hz3.trans (by decide)
    refine lv_istore_n (lv' := [(3, .int 1), (0, .ref h), (1, .int wd), (2, .int 2)]) hx hb d_Script_append_27 rfl hl (by decide) rfl (fun ls hl => ?_)
    refine lv_iload_n hx hb d_Script_append_28 rfl (lv_at hl 0 rfl) ?_
    refine lv_if_lt hx hb d_Script_append_29 (tgt := 67) (by decide) (fun hz => absurd hz (by decide)) (fun _ => ?_)
    refine lv_aload_n hx hb d_Script_append_32 rfl (lv_at hl 1 rfl) ?_
    refine va_get (D := D) (ci := 2) (v := .ref by_) (C := "TaleMachine$Script") (T := F_Script) (N := 2) hx hb hts in_Script hown hK hP 0 rfl rfl 0 (by decide) (hts _ k_32) (fun _ h9 => h9) rfl d_Script_append_33 ?_
    refine lv_aload_n hx hb d_Script_append_36 rfl (lv_at hl 1 rfl) ?_
    refine va_get (D := D) (ci := 2) (v := .int (nI ln)) (C := "TaleMachine$Script") (T := F_Script) (N := 2) hx hb hts in_Script hown hK hP 0 rfl rfl 1 (by decide) (hts _ k_33) (fun _ h9 => h9) rfl d_Script_append_37 ?_
    refine lv_iload_n hx hb d_Script_append_40 rfl (lv_at hl 2 rfl) ?_
    refine lv_bipush (v := 8) hx hb d_Script_append_41 (by decide) ?_
    refine lv_iload_n hx hb d_Script_append_43 rfl (lv_at hl 0 rfl) ?_
    refine lv_imul hx hb d_Script_append_44 ?_
    refine lv_topi (fun z4 hz4 => ?_)
    obtain rfl : z4 = 8 := hz4.trans (by decide)
    refine lv_iushr hx hb d_Script_append_45 rfl ?_
    refine lv_topi (fun z5 hz5 => ?_)
    refine lv_sipush (v := 255) hx hb d_Script_append_46 (by decide) ?_
    refine lv_iand hx hb d_Script_append_49 ?_
    refine lv_topi (fun z6 hz6 => ?_)
    obtain rfl : z6 = (z5 &&& 255) := hz6.trans (rfl)
    refine ia_st hx hb hK hP hD hS 1 0 rfl rfl (k := ln) (x := (z5 &&& 255)) (by omega) (by first | decide | assumption) d_Script_append_50 (fun H locs hP hD hS => ?_)
    have hP : va_P D cL [(h, .inr (2, [.ref by_, .int (nI ln)])), (by_, .inl (cI, 300, .inl (upd fb ln (z5 &&& 255))))] H := hP
    have hD : va_D A [(h, .inr (2, [.ref by_, .int (nI ln)])), (by_, .inl (cI, 300, .inl (upd fb ln (z5 &&& 255))))] := hD
    refine lv_aload_n hx hb d_Script_append_51 rfl (lv_at hl 1 rfl) ?_
    refine lv_dup hx hb d_Script_append_52 rfl ?_
    refine va_get (D := D) (ci := 2) (v := .int (nI ln)) (C := "TaleMachine$Script") (T := F_Script) (N := 2) hx hb hts in_Script hown hK hP 0 rfl rfl 1 (by decide) (hts _ k_33) (fun _ h9 => h9) rfl d_Script_append_53 ?_
    refine lv_iconst (v := 1) hx hb d_Script_append_56 (by decide) ?_
    refine lv_iadd hx hb d_Script_append_57 ?_
    refine lv_topi (fun z7 hz7 => ?_)
    obtain rfl : z7 = nI (ln + 1) := hz7.trans (nI_add ln 1)
    refine va_put (D := D) (ci := 2) (v := .int (nI (ln + 1))) (ty := .int) (C := "TaleMachine$Script") (T := F_Script) (N := 2) hx hb hts in_Script t_Script t_Script_ok n_Script hown hK hP hD hS 0 rfl rfl 1 (by decide) (hts _ k_33) (fun _ h9 => h9) rfl (by decide +kernel) rfl rfl (Nat.le_of_ble_eq_true rfl) d_Script_append_58 (fun H locs hP hD hS => ?_)
    have hP : va_P D cL [(h, .inr (2, [.ref by_, .int (nI (ln + 1))])), (by_, .inl (cI, 300, .inl (upd fb ln (z5 &&& 255))))] H := hP
    have hD : va_D A [(h, .inr (2, [.ref by_, .int (nI (ln + 1))])), (by_, .inl (cI, 300, .inl (upd fb ln (z5 &&& 255))))] := hD
    refine lv_iinc (v := 0) (lv' := [(3, .int 0), (0, .ref h), (1, .int wd), (2, .int 2)]) hx hb d_Script_append_61 hl (k := 0) rfl (by decide) (by decide) rfl (fun ls hl => ?_)
    refine lv_goto hx hb d_Script_append_64 (tgt := 28) (by decide) ?_
    refine lv_iload_n hx hb d_Script_append_28 rfl (lv_at hl 0 rfl) ?_
    refine lv_if_lt hx hb d_Script_append_29 (tgt := 67) (by decide) (fun hz => absurd hz (by decide)) (fun _ => ?_)
    refine lv_aload_n hx hb d_Script_append_32 rfl (lv_at hl 1 rfl) ?_
    refine va_get (D := D) (ci := 2) (v := .ref by_) (C := "TaleMachine$Script") (T := F_Script) (N := 2) hx hb hts in_Script hown hK hP 0 rfl rfl 0 (by decide) (hts _ k_32) (fun _ h9 => h9) rfl d_Script_append_33 ?_
    refine lv_aload_n hx hb d_Script_append_36 rfl (lv_at hl 1 rfl) ?_
    refine va_get (D := D) (ci := 2) (v := .int (nI (ln + 1))) (C := "TaleMachine$Script") (T := F_Script) (N := 2) hx hb hts in_Script hown hK hP 0 rfl rfl 1 (by decide) (hts _ k_33) (fun _ h9 => h9) rfl d_Script_append_37 ?_
    refine lv_iload_n hx hb d_Script_append_40 rfl (lv_at hl 2 rfl) ?_
    refine lv_bipush (v := 8) hx hb d_Script_append_41 (by decide) ?_
    refine lv_iload_n hx hb d_Script_append_43 rfl (lv_at hl 0 rfl) ?_
    refine lv_imul hx hb d_Script_append_44 ?_
    refine lv_topi (fun z8 hz8 => ?_)
    obtain rfl : z8 = 0 := hz8.trans (by decide)
    refine lv_iushr hx hb d_Script_append_45 rfl ?_
    refine lv_topi (fun z9 hz9 => ?_)
    refine lv_sipush (v := 255) hx hb d_Script_append_46 (by decide) ?_
    refine lv_iand hx hb d_Script_append_49 ?_
    refine lv_topi (fun z10 hz10 => ?_)
    obtain rfl : z10 = (z9 &&& 255) := hz10.trans (rfl)
    refine ia_st hx hb hK hP hD hS 1 0 rfl rfl (k := ln + 1) (x := (z9 &&& 255)) (by omega) (by first | decide | assumption) d_Script_append_50 (fun H locs hP hD hS => ?_)
    have hP : va_P D cL [(h, .inr (2, [.ref by_, .int (nI (ln + 1))])), (by_, .inl (cI, 300, .inl (upd (upd fb ln (z5 &&& 255)) (ln + 1) (z9 &&& 255))))] H := hP
    have hD : va_D A [(h, .inr (2, [.ref by_, .int (nI (ln + 1))])), (by_, .inl (cI, 300, .inl (upd (upd fb ln (z5 &&& 255)) (ln + 1) (z9 &&& 255))))] := hD
    refine lv_aload_n hx hb d_Script_append_51 rfl (lv_at hl 1 rfl) ?_
    refine lv_dup hx hb d_Script_append_52 rfl ?_
    refine va_get (D := D) (ci := 2) (v := .int (nI (ln + 1))) (C := "TaleMachine$Script") (T := F_Script) (N := 2) hx hb hts in_Script hown hK hP 0 rfl rfl 1 (by decide) (hts _ k_33) (fun _ h9 => h9) rfl d_Script_append_53 ?_
    refine lv_iconst (v := 1) hx hb d_Script_append_56 (by decide) ?_
    refine lv_iadd hx hb d_Script_append_57 ?_
    refine lv_topi (fun z11 hz11 => ?_)
    obtain rfl : z11 = nI ((ln + 1) + 1) := hz11.trans (nI_add (ln + 1) 1)
    refine va_put (D := D) (ci := 2) (v := .int (nI ((ln + 1) + 1))) (ty := .int) (C := "TaleMachine$Script") (T := F_Script) (N := 2) hx hb hts in_Script t_Script t_Script_ok n_Script hown hK hP hD hS 0 rfl rfl 1 (by decide) (hts _ k_33) (fun _ h9 => h9) rfl (by decide +kernel) rfl rfl (Nat.le_of_ble_eq_true rfl) d_Script_append_58 (fun H locs hP hD hS => ?_)
    have hP : va_P D cL [(h, .inr (2, [.ref by_, .int (nI ((ln + 1) + 1))])), (by_, .inl (cI, 300, .inl (upd (upd fb ln (z5 &&& 255)) (ln + 1) (z9 &&& 255))))] H := hP
    have hD : va_D A [(h, .inr (2, [.ref by_, .int (nI ((ln + 1) + 1))])), (by_, .inl (cI, 300, .inl (upd (upd fb ln (z5 &&& 255)) (ln + 1) (z9 &&& 255))))] := hD
    refine lv_iinc (v := (-1)) (lv' := [(3, .int (-1)), (0, .ref h), (1, .int wd), (2, .int 2)]) hx hb d_Script_append_61 hl (k := 0) rfl (by decide) (by decide) rfl (fun ls hl => ?_)
    refine lv_goto hx hb d_Script_append_64 (tgt := 28) (by decide) ?_
    refine lv_iload_n hx hb d_Script_append_28 rfl (lv_at hl 0 rfl) ?_
    refine lv_if_lt hx hb d_Script_append_29 (tgt := 67) (by decide) (fun _ => ?_) (fun hz => absurd (by decide) hz)
    refine lv_iconst (v := 1) hx hb d_Script_append_67 (by decide) ?_
    exact end_z hx hb hr hlocks hS (u := (upd (upd fb ln (z5 &&& 255)) (ln + 1) (z9 &&& 255), (ln + 1) + 1)) (r := 1) (at_end (hP.sub (ws' := [(h, .inr (2, [.ref by_, .int (nI ((ln + 1) + 1))])), (by_, .inl (cI, 300, .inl (upd (upd fb ln (z5 &&& 255)) (ln + 1) (z9 &&& 255))))]) [0, 1] rfl) (hD.sub (ws' := [(h, .inr (2, [.ref by_, .int (nI ((ln + 1) + 1))])), (by_, .inl (cI, 300, .inl (upd (upd fb ln (z5 &&& 255)) (ln + 1) (z9 &&& 255))))]) [0, 1] (by decide) rfl)) (⟨BY.up (BY.up (hB) _ (by_and _)) _ (by_and _), Or.inl ⟨rfl, by omega, by omega⟩⟩) (by decide) (Nat.le_of_ble_eq_true rfl) (Nat.le_of_ble_eq_true rfl) d_Script_append_68
  · have hc2N : ¬ (ln + 2) ≤ 300 := fun z9 => hc2 ((nI_leI (a := ln + 2) (b := 300) (by omega) (by omega)).mpr z9)
    refine lv_iconst (v := 0) hx hb d_Script_append_22 (by decide) ?_
    exact end_z hx hb hr hlocks hS (u := (fb, ln)) (r := 0) (at_end (hP.sub (ws' := [(h, .inr (2, [.ref by_, .int (nI ln)])), (by_, .inl (cI, 300, .inl fb))]) [0, 1] rfl) (hD.sub (ws' := [(h, .inr (2, [.ref by_, .int (nI ln)])), (by_, .inl (cI, 300, .inl fb))]) [0, 1] (by decide) rfl)) (⟨hB, Or.inr ⟨rfl, by omega, rfl⟩⟩) (by decide) (Nat.le_of_ble_eq_true rfl) (Nat.le_of_ble_eq_true rfl) d_Script_append_23

set_option maxHeartbeats 4000000 in
set_option maxRecDepth 100000 in
theorem s_append_3 (l : Launch) (D : va_G) (cI cZ cJ : ClassId) (h by_ : Nat) (ln : Nat) (fb : Nat → Int32) (wd : Int32) (sz : Nat) (hln : ln ≤ 300) (hB : BY fb) : Met l y_Script_append (.code y_Script_append prog_4_method_2_code 4 (some .boolean) :: AW) ({ frames := 0, cells := 0, slots := 0, locals := 0 }) (va_Pc [.ref h, .int wd, .int 3] (pre_ D [(h, .inr (2, [.ref by_, .int (nI ln)])), (by_, .inl (cI, 300, .inl fb))] [(cI, .int), (cZ, .boolean), (cJ, .long)] sz)) (va_Qi (fun (r : Int32) (u : (Nat → Int32) × Nat) => BY u.1 ∧ ((r = 1 ∧ ln + 3 ≤ 300 ∧ u.2 = ln + 3) ∨ (r = 0 ∧ ¬ ln + 3 ≤ 300 ∧ u.2 = ln))) (fun u t => match u with | (fb2, ln2) => post_ D (va_A [(h, .inr (2, [.ref by_, .int (nI ln)])), (by_, .inl (cI, 300, .inl fb))] sz) [(h, .inr (2, [.ref by_, .int (nI ln2)])), (by_, .inl (cI, 300, .inl fb2))] t) (va_A [(h, .inr (2, [.ref by_, .int (nI ln)])), (by_, .inl (cI, 300, .inl fb))] sz)) 0 0 (va_A [(h, .inr (2, [.ref by_, .int (nI ln)])), (by_, .inl (cI, 300, .inl fb))] sz) := by
  refine Met.ofW (cc := prog_4_method_2_code) (maxL := 4) (ret := (some .boolean)) (by decide) rfl ?_
  intro p e s m args below meth c s₁ B hml hv
  obtain ⟨rfl, rfl, hP, hK, hD0, hT⟩ := hv
  have hx := B.exec
  have hb := B.bytes
  have hr := B.returns
  have hts0 := atoms_spec (ws := .code y_Script_append prog_4_method_2_code 4 (some .boolean) :: AW) B.pre
  have hts : ∀ w ∈ AW, w.before [.ref h, .int wd, .int 3].toArray s = true := fun w h => hts0 w (List.mem_cons_of_mem _ h)
  have hown : s.vm.findClass "TaleMachine$Script" = some m.cls := findClass_of_methodNamed B.named
  have hlocks := B.notSynchronized
  have hD := hD0.self (sz := s.heap.size)
  generalize hAe : va_A [(h, .inr (2, [.ref by_, .int (nI ln)])), (by_, .inl (cI, 300, .inl fb))] s.heap.size = A at hD ⊢
  have hA : ∀ q : Nat, s.heap.size ≤ q → A q := fun q h => by rw [← hAe]; exact Or.inr h
  have hS : va_S A s.heap s.heap [] := va_S.rf
  have hl := lv_entry ([.ref h, .int wd, .int 3]) (n := 4) (Nat.le_of_ble_eq_true rfl)
  rw [lg_entry_eq]
  generalize (lg_sl ([.ref h, .int wd, .int 3]) ++ List.replicate (4 - (lg_sl ([.ref h, .int wd, .int 3])).length) Slot.unset).toArray = ls at hl ⊢
  have hl : lv_has ls 4 [(0, .ref h), (1, .int wd), (2, .int 3)] := hl
  refine lv_iload_n hx hb d_Script_append_0 rfl (lv_at hl 2 rfl) ?_
  refine lv_iconst (v := 1) hx hb d_Script_append_1 (by decide) ?_
  refine lv_icmp_lt hx hb d_Script_append_2 (tgt := 22) (by decide) (fun hz => absurd hz (by decide)) (fun _ => ?_)
  refine lv_iload_n hx hb d_Script_append_5 rfl (lv_at hl 2 rfl) ?_
  refine lv_iconst (v := 4) hx hb d_Script_append_6 (by decide) ?_
  refine lv_icmp_gt hx hb d_Script_append_7 (tgt := 22) (by decide) (fun hz => absurd hz (by decide)) (fun _ => ?_)
  refine lv_aload_n hx hb d_Script_append_10 rfl (lv_at hl 0 rfl) ?_
  refine va_get (D := D) (ci := 2) (v := .int (nI ln)) (C := "TaleMachine$Script") (T := F_Script) (N := 2) hx hb hts in_Script hown hK hP 0 rfl rfl 1 (by decide) (hts _ k_33) (fun _ h9 => h9) rfl d_Script_append_11 ?_
  refine lv_iload_n hx hb d_Script_append_14 rfl (lv_at hl 2 rfl) ?_
  refine lv_iadd hx hb d_Script_append_15 ?_
  refine lv_topi (fun z1 hz1 => ?_)
  obtain rfl : z1 = nI (ln + 3) := hz1.trans (nI_add ln 3)
  refine lv_sipush (v := 300) hx hb d_Script_append_16 (by decide) ?_
  refine lv_icmp_le hx hb d_Script_append_19 (tgt := 24) (by decide) (fun hc2 => ?_) (fun hc2 => ?_)
  · have hc2N : (ln + 3) ≤ 300 := (nI_leI (a := ln + 3) (b := 300) (by omega) (by omega)).mp hc2
    refine lv_iload_n hx hb d_Script_append_24 rfl (lv_at hl 2 rfl) ?_
    refine lv_iconst (v := 1) hx hb d_Script_append_25 (by decide) ?_
    refine lv_isub hx hb d_Script_append_26 ?_
    refine lv_topi (fun z3 hz3 => ?_)
    obtain rfl : z3 = 2 := hz3.trans (by decide)
    refine lv_istore_n (lv' := [(3, .int 2), (0, .ref h), (1, .int wd), (2, .int 3)]) hx hb d_Script_append_27 rfl hl (by decide) rfl (fun ls hl => ?_)
    refine lv_iload_n hx hb d_Script_append_28 rfl (lv_at hl 0 rfl) ?_
    refine lv_if_lt hx hb d_Script_append_29 (tgt := 67) (by decide) (fun hz => absurd hz (by decide)) (fun _ => ?_)
    refine lv_aload_n hx hb d_Script_append_32 rfl (lv_at hl 1 rfl) ?_
    refine va_get (D := D) (ci := 2) (v := .ref by_) (C := "TaleMachine$Script") (T := F_Script) (N := 2) hx hb hts in_Script hown hK hP 0 rfl rfl 0 (by decide) (hts _ k_32) (fun _ h9 => h9) rfl d_Script_append_33 ?_
    refine lv_aload_n hx hb d_Script_append_36 rfl (lv_at hl 1 rfl) ?_
    refine va_get (D := D) (ci := 2) (v := .int (nI ln)) (C := "TaleMachine$Script") (T := F_Script) (N := 2) hx hb hts in_Script hown hK hP 0 rfl rfl 1 (by decide) (hts _ k_33) (fun _ h9 => h9) rfl d_Script_append_37 ?_
    refine lv_iload_n hx hb d_Script_append_40 rfl (lv_at hl 2 rfl) ?_
    refine lv_bipush (v := 8) hx hb d_Script_append_41 (by decide) ?_
    refine lv_iload_n hx hb d_Script_append_43 rfl (lv_at hl 0 rfl) ?_
    refine lv_imul hx hb d_Script_append_44 ?_
    refine lv_topi (fun z4 hz4 => ?_)
    obtain rfl : z4 = 16 := hz4.trans (by decide)
    refine lv_iushr hx hb d_Script_append_45 rfl ?_
    refine lv_topi (fun z5 hz5 => ?_)
    refine lv_sipush (v := 255) hx hb d_Script_append_46 (by decide) ?_
    refine lv_iand hx hb d_Script_append_49 ?_
    refine lv_topi (fun z6 hz6 => ?_)
    obtain rfl : z6 = (z5 &&& 255) := hz6.trans (rfl)
    refine ia_st hx hb hK hP hD hS 1 0 rfl rfl (k := ln) (x := (z5 &&& 255)) (by omega) (by first | decide | assumption) d_Script_append_50 (fun H locs hP hD hS => ?_)
    have hP : va_P D cL [(h, .inr (2, [.ref by_, .int (nI ln)])), (by_, .inl (cI, 300, .inl (upd fb ln (z5 &&& 255))))] H := hP
    have hD : va_D A [(h, .inr (2, [.ref by_, .int (nI ln)])), (by_, .inl (cI, 300, .inl (upd fb ln (z5 &&& 255))))] := hD
    refine lv_aload_n hx hb d_Script_append_51 rfl (lv_at hl 1 rfl) ?_
    refine lv_dup hx hb d_Script_append_52 rfl ?_
    refine va_get (D := D) (ci := 2) (v := .int (nI ln)) (C := "TaleMachine$Script") (T := F_Script) (N := 2) hx hb hts in_Script hown hK hP 0 rfl rfl 1 (by decide) (hts _ k_33) (fun _ h9 => h9) rfl d_Script_append_53 ?_
    refine lv_iconst (v := 1) hx hb d_Script_append_56 (by decide) ?_
    refine lv_iadd hx hb d_Script_append_57 ?_
    refine lv_topi (fun z7 hz7 => ?_)
    obtain rfl : z7 = nI (ln + 1) := hz7.trans (nI_add ln 1)
    refine va_put (D := D) (ci := 2) (v := .int (nI (ln + 1))) (ty := .int) (C := "TaleMachine$Script") (T := F_Script) (N := 2) hx hb hts in_Script t_Script t_Script_ok n_Script hown hK hP hD hS 0 rfl rfl 1 (by decide) (hts _ k_33) (fun _ h9 => h9) rfl (by decide +kernel) rfl rfl (Nat.le_of_ble_eq_true rfl) d_Script_append_58 (fun H locs hP hD hS => ?_)
    have hP : va_P D cL [(h, .inr (2, [.ref by_, .int (nI (ln + 1))])), (by_, .inl (cI, 300, .inl (upd fb ln (z5 &&& 255))))] H := hP
    have hD : va_D A [(h, .inr (2, [.ref by_, .int (nI (ln + 1))])), (by_, .inl (cI, 300, .inl (upd fb ln (z5 &&& 255))))] := hD
    refine lv_iinc (v := 1) (lv' := [(3, .int 1), (0, .ref h), (1, .int wd), (2, .int 3)]) hx hb d_Script_append_61 hl (k := 0) rfl (by decide) (by decide) rfl (fun ls hl => ?_)
    refine lv_goto hx hb d_Script_append_64 (tgt := 28) (by decide) ?_
    refine lv_iload_n hx hb d_Script_append_28 rfl (lv_at hl 0 rfl) ?_
    refine lv_if_lt hx hb d_Script_append_29 (tgt := 67) (by decide) (fun hz => absurd hz (by decide)) (fun _ => ?_)
    refine lv_aload_n hx hb d_Script_append_32 rfl (lv_at hl 1 rfl) ?_
    refine va_get (D := D) (ci := 2) (v := .ref by_) (C := "TaleMachine$Script") (T := F_Script) (N := 2) hx hb hts in_Script hown hK hP 0 rfl rfl 0 (by decide) (hts _ k_32) (fun _ h9 => h9) rfl d_Script_append_33 ?_
    refine lv_aload_n hx hb d_Script_append_36 rfl (lv_at hl 1 rfl) ?_
    refine va_get (D := D) (ci := 2) (v := .int (nI (ln + 1))) (C := "TaleMachine$Script") (T := F_Script) (N := 2) hx hb hts in_Script hown hK hP 0 rfl rfl 1 (by decide) (hts _ k_33) (fun _ h9 => h9) rfl d_Script_append_37 ?_
    refine lv_iload_n hx hb d_Script_append_40 rfl (lv_at hl 2 rfl) ?_
    refine lv_bipush (v := 8) hx hb d_Script_append_41 (by decide) ?_
    refine lv_iload_n hx hb d_Script_append_43 rfl (lv_at hl 0 rfl) ?_
    refine lv_imul hx hb d_Script_append_44 ?_
    refine lv_topi (fun z8 hz8 => ?_)
    obtain rfl : z8 = 8 := hz8.trans (by decide)
    refine lv_iushr hx hb d_Script_append_45 rfl ?_
    refine lv_topi (fun z9 hz9 => ?_)
    refine lv_sipush (v := 255) hx hb d_Script_append_46 (by decide) ?_
    refine lv_iand hx hb d_Script_append_49 ?_
    refine lv_topi (fun z10 hz10 => ?_)
    obtain rfl : z10 = (z9 &&& 255) := hz10.trans (rfl)
    refine ia_st hx hb hK hP hD hS 1 0 rfl rfl (k := ln + 1) (x := (z9 &&& 255)) (by omega) (by first | decide | assumption) d_Script_append_50 (fun H locs hP hD hS => ?_)
    have hP : va_P D cL [(h, .inr (2, [.ref by_, .int (nI (ln + 1))])), (by_, .inl (cI, 300, .inl (upd (upd fb ln (z5 &&& 255)) (ln + 1) (z9 &&& 255))))] H := hP
    have hD : va_D A [(h, .inr (2, [.ref by_, .int (nI (ln + 1))])), (by_, .inl (cI, 300, .inl (upd (upd fb ln (z5 &&& 255)) (ln + 1) (z9 &&& 255))))] := hD
    refine lv_aload_n hx hb d_Script_append_51 rfl (lv_at hl 1 rfl) ?_
    refine lv_dup hx hb d_Script_append_52 rfl ?_
    refine va_get (D := D) (ci := 2) (v := .int (nI (ln + 1))) (C := "TaleMachine$Script") (T := F_Script) (N := 2) hx hb hts in_Script hown hK hP 0 rfl rfl 1 (by decide) (hts _ k_33) (fun _ h9 => h9) rfl d_Script_append_53 ?_
    refine lv_iconst (v := 1) hx hb d_Script_append_56 (by decide) ?_
    refine lv_iadd hx hb d_Script_append_57 ?_
    refine lv_topi (fun z11 hz11 => ?_)
    obtain rfl : z11 = nI ((ln + 1) + 1) := hz11.trans (nI_add (ln + 1) 1)
    refine va_put (D := D) (ci := 2) (v := .int (nI ((ln + 1) + 1))) (ty := .int) (C := "TaleMachine$Script") (T := F_Script) (N := 2) hx hb hts in_Script t_Script t_Script_ok n_Script hown hK hP hD hS 0 rfl rfl 1 (by decide) (hts _ k_33) (fun _ h9 => h9) rfl (by decide +kernel) rfl rfl (Nat.le_of_ble_eq_true rfl) d_Script_append_58 (fun H locs hP hD hS => ?_)
    have hP : va_P D cL [(h, .inr (2, [.ref by_, .int (nI ((ln + 1) + 1))])), (by_, .inl (cI, 300, .inl (upd (upd fb ln (z5 &&& 255)) (ln + 1) (z9 &&& 255))))] H := hP
    have hD : va_D A [(h, .inr (2, [.ref by_, .int (nI ((ln + 1) + 1))])), (by_, .inl (cI, 300, .inl (upd (upd fb ln (z5 &&& 255)) (ln + 1) (z9 &&& 255))))] := hD
    refine lv_iinc (v := 0) (lv' := [(3, .int 0), (0, .ref h), (1, .int wd), (2, .int 3)]) hx hb d_Script_append_61 hl (k := 0) rfl (by decide) (by decide) rfl (fun ls hl => ?_)
    refine lv_goto hx hb d_Script_append_64 (tgt := 28) (by decide) ?_
    refine lv_iload_n hx hb d_Script_append_28 rfl (lv_at hl 0 rfl) ?_
    refine lv_if_lt hx hb d_Script_append_29 (tgt := 67) (by decide) (fun hz => absurd hz (by decide)) (fun _ => ?_)
    refine lv_aload_n hx hb d_Script_append_32 rfl (lv_at hl 1 rfl) ?_
    refine va_get (D := D) (ci := 2) (v := .ref by_) (C := "TaleMachine$Script") (T := F_Script) (N := 2) hx hb hts in_Script hown hK hP 0 rfl rfl 0 (by decide) (hts _ k_32) (fun _ h9 => h9) rfl d_Script_append_33 ?_
    refine lv_aload_n hx hb d_Script_append_36 rfl (lv_at hl 1 rfl) ?_
    refine va_get (D := D) (ci := 2) (v := .int (nI ((ln + 1) + 1))) (C := "TaleMachine$Script") (T := F_Script) (N := 2) hx hb hts in_Script hown hK hP 0 rfl rfl 1 (by decide) (hts _ k_33) (fun _ h9 => h9) rfl d_Script_append_37 ?_
    refine lv_iload_n hx hb d_Script_append_40 rfl (lv_at hl 2 rfl) ?_
    refine lv_bipush (v := 8) hx hb d_Script_append_41 (by decide) ?_
    refine lv_iload_n hx hb d_Script_append_43 rfl (lv_at hl 0 rfl) ?_
    refine lv_imul hx hb d_Script_append_44 ?_
    refine lv_topi (fun z12 hz12 => ?_)
    obtain rfl : z12 = 0 := hz12.trans (by decide)
    refine lv_iushr hx hb d_Script_append_45 rfl ?_
    refine lv_topi (fun z13 hz13 => ?_)
    refine lv_sipush (v := 255) hx hb d_Script_append_46 (by decide) ?_
    refine lv_iand hx hb d_Script_append_49 ?_
    refine lv_topi (fun z14 hz14 => ?_)
    obtain rfl : z14 = (z13 &&& 255) := hz14.trans (rfl)
    refine ia_st hx hb hK hP hD hS 1 0 rfl rfl (k := (ln + 1) + 1) (x := (z13 &&& 255)) (by omega) (by first | decide | assumption) d_Script_append_50 (fun H locs hP hD hS => ?_)
    have hP : va_P D cL [(h, .inr (2, [.ref by_, .int (nI ((ln + 1) + 1))])), (by_, .inl (cI, 300, .inl (upd (upd (upd fb ln (z5 &&& 255)) (ln + 1) (z9 &&& 255)) ((ln + 1) + 1) (z13 &&& 255))))] H := hP
    have hD : va_D A [(h, .inr (2, [.ref by_, .int (nI ((ln + 1) + 1))])), (by_, .inl (cI, 300, .inl (upd (upd (upd fb ln (z5 &&& 255)) (ln + 1) (z9 &&& 255)) ((ln + 1) + 1) (z13 &&& 255))))] := hD
    refine lv_aload_n hx hb d_Script_append_51 rfl (lv_at hl 1 rfl) ?_
    refine lv_dup hx hb d_Script_append_52 rfl ?_
    refine va_get (D := D) (ci := 2) (v := .int (nI ((ln + 1) + 1))) (C := "TaleMachine$Script") (T := F_Script) (N := 2) hx hb hts in_Script hown hK hP 0 rfl rfl 1 (by decide) (hts _ k_33) (fun _ h9 => h9) rfl d_Script_append_53 ?_
    refine lv_iconst (v := 1) hx hb d_Script_append_56 (by decide) ?_
    refine lv_iadd hx hb d_Script_append_57 ?_
    refine lv_topi (fun z15 hz15 => ?_)
    obtain rfl : z15 = nI (((ln + 1) + 1) + 1) := hz15.trans (nI_add ((ln + 1) + 1) 1)
    refine va_put (D := D) (ci := 2) (v := .int (nI (((ln + 1) + 1) + 1))) (ty := .int) (C := "TaleMachine$Script") (T := F_Script) (N := 2) hx hb hts in_Script t_Script t_Script_ok n_Script hown hK hP hD hS 0 rfl rfl 1 (by decide) (hts _ k_33) (fun _ h9 => h9) rfl (by decide +kernel) rfl rfl (Nat.le_of_ble_eq_true rfl) d_Script_append_58 (fun H locs hP hD hS => ?_)
    have hP : va_P D cL [(h, .inr (2, [.ref by_, .int (nI (((ln + 1) + 1) + 1))])), (by_, .inl (cI, 300, .inl (upd (upd (upd fb ln (z5 &&& 255)) (ln + 1) (z9 &&& 255)) ((ln + 1) + 1) (z13 &&& 255))))] H := hP
    have hD : va_D A [(h, .inr (2, [.ref by_, .int (nI (((ln + 1) + 1) + 1))])), (by_, .inl (cI, 300, .inl (upd (upd (upd fb ln (z5 &&& 255)) (ln + 1) (z9 &&& 255)) ((ln + 1) + 1) (z13 &&& 255))))] := hD
    refine lv_iinc (v := (-1)) (lv' := [(3, .int (-1)), (0, .ref h), (1, .int wd), (2, .int 3)]) hx hb d_Script_append_61 hl (k := 0) rfl (by decide) (by decide) rfl (fun ls hl => ?_)
    refine lv_goto hx hb d_Script_append_64 (tgt := 28) (by decide) ?_
    refine lv_iload_n hx hb d_Script_append_28 rfl (lv_at hl 0 rfl) ?_
    refine lv_if_lt hx hb d_Script_append_29 (tgt := 67) (by decide) (fun _ => ?_) (fun hz => absurd (by decide) hz)
    refine lv_iconst (v := 1) hx hb d_Script_append_67 (by decide) ?_
    exact end_z hx hb hr hlocks hS (u := (upd (upd (upd fb ln (z5 &&& 255)) (ln + 1) (z9 &&& 255)) ((ln + 1) + 1) (z13 &&& 255), ((ln + 1) + 1) + 1)) (r := 1) (at_end (hP.sub (ws' := [(h, .inr (2, [.ref by_, .int (nI (((ln + 1) + 1) + 1))])), (by_, .inl (cI, 300, .inl (upd (upd (upd fb ln (z5 &&& 255)) (ln + 1) (z9 &&& 255)) ((ln + 1) + 1) (z13 &&& 255))))]) [0, 1] rfl) (hD.sub (ws' := [(h, .inr (2, [.ref by_, .int (nI (((ln + 1) + 1) + 1))])), (by_, .inl (cI, 300, .inl (upd (upd (upd fb ln (z5 &&& 255)) (ln + 1) (z9 &&& 255)) ((ln + 1) + 1) (z13 &&& 255))))]) [0, 1] (by decide) rfl)) (⟨BY.up (BY.up (BY.up (hB) _ (by_and _)) _ (by_and _)) _ (by_and _), Or.inl ⟨rfl, by omega, by omega⟩⟩) (by decide) (Nat.le_of_ble_eq_true rfl) (Nat.le_of_ble_eq_true rfl) d_Script_append_68
  · have hc2N : ¬ (ln + 3) ≤ 300 := fun z9 => hc2 ((nI_leI (a := ln + 3) (b := 300) (by omega) (by omega)).mpr z9)
    refine lv_iconst (v := 0) hx hb d_Script_append_22 (by decide) ?_
    exact end_z hx hb hr hlocks hS (u := (fb, ln)) (r := 0) (at_end (hP.sub (ws' := [(h, .inr (2, [.ref by_, .int (nI ln)])), (by_, .inl (cI, 300, .inl fb))]) [0, 1] rfl) (hD.sub (ws' := [(h, .inr (2, [.ref by_, .int (nI ln)])), (by_, .inl (cI, 300, .inl fb))]) [0, 1] (by decide) rfl)) (⟨hB, Or.inr ⟨rfl, by omega, rfl⟩⟩) (by decide) (Nat.le_of_ble_eq_true rfl) (Nat.le_of_ble_eq_true rfl) d_Script_append_23

set_option maxHeartbeats 4000000 in
set_option maxRecDepth 100000 in
theorem s_append_4 (l : Launch) (D : va_G) (cI cZ cJ : ClassId) (h by_ : Nat) (ln : Nat) (fb : Nat → Int32) (wd : Int32) (sz : Nat) (hln : ln ≤ 300) (hB : BY fb) : Met l y_Script_append (.code y_Script_append prog_4_method_2_code 4 (some .boolean) :: AW) ({ frames := 0, cells := 0, slots := 0, locals := 0 }) (va_Pc [.ref h, .int wd, .int 4] (pre_ D [(h, .inr (2, [.ref by_, .int (nI ln)])), (by_, .inl (cI, 300, .inl fb))] [(cI, .int), (cZ, .boolean), (cJ, .long)] sz)) (va_Qi (fun (r : Int32) (u : (Nat → Int32) × Nat) => BY u.1 ∧ ((r = 1 ∧ ln + 4 ≤ 300 ∧ u.2 = ln + 4) ∨ (r = 0 ∧ ¬ ln + 4 ≤ 300 ∧ u.2 = ln))) (fun u t => match u with | (fb2, ln2) => post_ D (va_A [(h, .inr (2, [.ref by_, .int (nI ln)])), (by_, .inl (cI, 300, .inl fb))] sz) [(h, .inr (2, [.ref by_, .int (nI ln2)])), (by_, .inl (cI, 300, .inl fb2))] t) (va_A [(h, .inr (2, [.ref by_, .int (nI ln)])), (by_, .inl (cI, 300, .inl fb))] sz)) 0 0 (va_A [(h, .inr (2, [.ref by_, .int (nI ln)])), (by_, .inl (cI, 300, .inl fb))] sz) := by
  refine Met.ofW (cc := prog_4_method_2_code) (maxL := 4) (ret := (some .boolean)) (by decide) rfl ?_
  intro p e s m args below meth c s₁ B hml hv
  obtain ⟨rfl, rfl, hP, hK, hD0, hT⟩ := hv
  have hx := B.exec
  have hb := B.bytes
  have hr := B.returns
  have hts0 := atoms_spec (ws := .code y_Script_append prog_4_method_2_code 4 (some .boolean) :: AW) B.pre
  have hts : ∀ w ∈ AW, w.before [.ref h, .int wd, .int 4].toArray s = true := fun w h => hts0 w (List.mem_cons_of_mem _ h)
  have hown : s.vm.findClass "TaleMachine$Script" = some m.cls := findClass_of_methodNamed B.named
  have hlocks := B.notSynchronized
  have hD := hD0.self (sz := s.heap.size)
  generalize hAe : va_A [(h, .inr (2, [.ref by_, .int (nI ln)])), (by_, .inl (cI, 300, .inl fb))] s.heap.size = A at hD ⊢
  have hA : ∀ q : Nat, s.heap.size ≤ q → A q := fun q h => by rw [← hAe]; exact Or.inr h
  have hS : va_S A s.heap s.heap [] := va_S.rf
  have hl := lv_entry ([.ref h, .int wd, .int 4]) (n := 4) (Nat.le_of_ble_eq_true rfl)
  rw [lg_entry_eq]
  generalize (lg_sl ([.ref h, .int wd, .int 4]) ++ List.replicate (4 - (lg_sl ([.ref h, .int wd, .int 4])).length) Slot.unset).toArray = ls at hl ⊢
  have hl : lv_has ls 4 [(0, .ref h), (1, .int wd), (2, .int 4)] := hl
  refine lv_iload_n hx hb d_Script_append_0 rfl (lv_at hl 2 rfl) ?_
  refine lv_iconst (v := 1) hx hb d_Script_append_1 (by decide) ?_
  refine lv_icmp_lt hx hb d_Script_append_2 (tgt := 22) (by decide) (fun hz => absurd hz (by decide)) (fun _ => ?_)
  refine lv_iload_n hx hb d_Script_append_5 rfl (lv_at hl 2 rfl) ?_
  refine lv_iconst (v := 4) hx hb d_Script_append_6 (by decide) ?_
  refine lv_icmp_gt hx hb d_Script_append_7 (tgt := 22) (by decide) (fun hz => absurd hz (by decide)) (fun _ => ?_)
  refine lv_aload_n hx hb d_Script_append_10 rfl (lv_at hl 0 rfl) ?_
  refine va_get (D := D) (ci := 2) (v := .int (nI ln)) (C := "TaleMachine$Script") (T := F_Script) (N := 2) hx hb hts in_Script hown hK hP 0 rfl rfl 1 (by decide) (hts _ k_33) (fun _ h9 => h9) rfl d_Script_append_11 ?_
  refine lv_iload_n hx hb d_Script_append_14 rfl (lv_at hl 2 rfl) ?_
  refine lv_iadd hx hb d_Script_append_15 ?_
  refine lv_topi (fun z1 hz1 => ?_)
  obtain rfl : z1 = nI (ln + 4) := hz1.trans (nI_add ln 4)
  refine lv_sipush (v := 300) hx hb d_Script_append_16 (by decide) ?_
  refine lv_icmp_le hx hb d_Script_append_19 (tgt := 24) (by decide) (fun hc2 => ?_) (fun hc2 => ?_)
  · have hc2N : (ln + 4) ≤ 300 := (nI_leI (a := ln + 4) (b := 300) (by omega) (by omega)).mp hc2
    refine lv_iload_n hx hb d_Script_append_24 rfl (lv_at hl 2 rfl) ?_
    refine lv_iconst (v := 1) hx hb d_Script_append_25 (by decide) ?_
    refine lv_isub hx hb d_Script_append_26 ?_
    refine lv_topi (fun z3 hz3 => ?_)
    obtain rfl : z3 = 3 := hz3.trans (by decide)
    refine lv_istore_n (lv' := [(3, .int 3), (0, .ref h), (1, .int wd), (2, .int 4)]) hx hb d_Script_append_27 rfl hl (by decide) rfl (fun ls hl => ?_)
    refine lv_iload_n hx hb d_Script_append_28 rfl (lv_at hl 0 rfl) ?_
    refine lv_if_lt hx hb d_Script_append_29 (tgt := 67) (by decide) (fun hz => absurd hz (by decide)) (fun _ => ?_)
    refine lv_aload_n hx hb d_Script_append_32 rfl (lv_at hl 1 rfl) ?_
    refine va_get (D := D) (ci := 2) (v := .ref by_) (C := "TaleMachine$Script") (T := F_Script) (N := 2) hx hb hts in_Script hown hK hP 0 rfl rfl 0 (by decide) (hts _ k_32) (fun _ h9 => h9) rfl d_Script_append_33 ?_
    refine lv_aload_n hx hb d_Script_append_36 rfl (lv_at hl 1 rfl) ?_
    refine va_get (D := D) (ci := 2) (v := .int (nI ln)) (C := "TaleMachine$Script") (T := F_Script) (N := 2) hx hb hts in_Script hown hK hP 0 rfl rfl 1 (by decide) (hts _ k_33) (fun _ h9 => h9) rfl d_Script_append_37 ?_
    refine lv_iload_n hx hb d_Script_append_40 rfl (lv_at hl 2 rfl) ?_
    refine lv_bipush (v := 8) hx hb d_Script_append_41 (by decide) ?_
    refine lv_iload_n hx hb d_Script_append_43 rfl (lv_at hl 0 rfl) ?_
    refine lv_imul hx hb d_Script_append_44 ?_
    refine lv_topi (fun z4 hz4 => ?_)
    obtain rfl : z4 = 24 := hz4.trans (by decide)
    refine lv_iushr hx hb d_Script_append_45 rfl ?_
    refine lv_topi (fun z5 hz5 => ?_)
    refine lv_sipush (v := 255) hx hb d_Script_append_46 (by decide) ?_
    refine lv_iand hx hb d_Script_append_49 ?_
    refine lv_topi (fun z6 hz6 => ?_)
    obtain rfl : z6 = (z5 &&& 255) := hz6.trans (rfl)
    refine ia_st hx hb hK hP hD hS 1 0 rfl rfl (k := ln) (x := (z5 &&& 255)) (by omega) (by first | decide | assumption) d_Script_append_50 (fun H locs hP hD hS => ?_)
    have hP : va_P D cL [(h, .inr (2, [.ref by_, .int (nI ln)])), (by_, .inl (cI, 300, .inl (upd fb ln (z5 &&& 255))))] H := hP
    have hD : va_D A [(h, .inr (2, [.ref by_, .int (nI ln)])), (by_, .inl (cI, 300, .inl (upd fb ln (z5 &&& 255))))] := hD
    refine lv_aload_n hx hb d_Script_append_51 rfl (lv_at hl 1 rfl) ?_
    refine lv_dup hx hb d_Script_append_52 rfl ?_
    refine va_get (D := D) (ci := 2) (v := .int (nI ln)) (C := "TaleMachine$Script") (T := F_Script) (N := 2) hx hb hts in_Script hown hK hP 0 rfl rfl 1 (by decide) (hts _ k_33) (fun _ h9 => h9) rfl d_Script_append_53 ?_
    refine lv_iconst (v := 1) hx hb d_Script_append_56 (by decide) ?_
    refine lv_iadd hx hb d_Script_append_57 ?_
    refine lv_topi (fun z7 hz7 => ?_)
    obtain rfl : z7 = nI (ln + 1) := hz7.trans (nI_add ln 1)
    refine va_put (D := D) (ci := 2) (v := .int (nI (ln + 1))) (ty := .int) (C := "TaleMachine$Script") (T := F_Script) (N := 2) hx hb hts in_Script t_Script t_Script_ok n_Script hown hK hP hD hS 0 rfl rfl 1 (by decide) (hts _ k_33) (fun _ h9 => h9) rfl (by decide +kernel) rfl rfl (Nat.le_of_ble_eq_true rfl) d_Script_append_58 (fun H locs hP hD hS => ?_)
    have hP : va_P D cL [(h, .inr (2, [.ref by_, .int (nI (ln + 1))])), (by_, .inl (cI, 300, .inl (upd fb ln (z5 &&& 255))))] H := hP
    have hD : va_D A [(h, .inr (2, [.ref by_, .int (nI (ln + 1))])), (by_, .inl (cI, 300, .inl (upd fb ln (z5 &&& 255))))] := hD
    refine lv_iinc (v := 2) (lv' := [(3, .int 2), (0, .ref h), (1, .int wd), (2, .int 4)]) hx hb d_Script_append_61 hl (k := 0) rfl (by decide) (by decide) rfl (fun ls hl => ?_)
    refine lv_goto hx hb d_Script_append_64 (tgt := 28) (by decide) ?_
    refine lv_iload_n hx hb d_Script_append_28 rfl (lv_at hl 0 rfl) ?_
    refine lv_if_lt hx hb d_Script_append_29 (tgt := 67) (by decide) (fun hz => absurd hz (by decide)) (fun _ => ?_)
    refine lv_aload_n hx hb d_Script_append_32 rfl (lv_at hl 1 rfl) ?_
    refine va_get (D := D) (ci := 2) (v := .ref by_) (C := "TaleMachine$Script") (T := F_Script) (N := 2) hx hb hts in_Script hown hK hP 0 rfl rfl 0 (by decide) (hts _ k_32) (fun _ h9 => h9) rfl d_Script_append_33 ?_
    refine lv_aload_n hx hb d_Script_append_36 rfl (lv_at hl 1 rfl) ?_
    refine va_get (D := D) (ci := 2) (v := .int (nI (ln + 1))) (C := "TaleMachine$Script") (T := F_Script) (N := 2) hx hb hts in_Script hown hK hP 0 rfl rfl 1 (by decide) (hts _ k_33) (fun _ h9 => h9) rfl d_Script_append_37 ?_
    refine lv_iload_n hx hb d_Script_append_40 rfl (lv_at hl 2 rfl) ?_
    refine lv_bipush (v := 8) hx hb d_Script_append_41 (by decide) ?_
    refine lv_iload_n hx hb d_Script_append_43 rfl (lv_at hl 0 rfl) ?_
    refine lv_imul hx hb d_Script_append_44 ?_
    refine lv_topi (fun z8 hz8 => ?_)
    obtain rfl : z8 = 16 := hz8.trans (by decide)
    refine lv_iushr hx hb d_Script_append_45 rfl ?_
    refine lv_topi (fun z9 hz9 => ?_)
    refine lv_sipush (v := 255) hx hb d_Script_append_46 (by decide) ?_
    refine lv_iand hx hb d_Script_append_49 ?_
    refine lv_topi (fun z10 hz10 => ?_)
    obtain rfl : z10 = (z9 &&& 255) := hz10.trans (rfl)
    refine ia_st hx hb hK hP hD hS 1 0 rfl rfl (k := ln + 1) (x := (z9 &&& 255)) (by omega) (by first | decide | assumption) d_Script_append_50 (fun H locs hP hD hS => ?_)
    have hP : va_P D cL [(h, .inr (2, [.ref by_, .int (nI (ln + 1))])), (by_, .inl (cI, 300, .inl (upd (upd fb ln (z5 &&& 255)) (ln + 1) (z9 &&& 255))))] H := hP
    have hD : va_D A [(h, .inr (2, [.ref by_, .int (nI (ln + 1))])), (by_, .inl (cI, 300, .inl (upd (upd fb ln (z5 &&& 255)) (ln + 1) (z9 &&& 255))))] := hD
    refine lv_aload_n hx hb d_Script_append_51 rfl (lv_at hl 1 rfl) ?_
    refine lv_dup hx hb d_Script_append_52 rfl ?_
    refine va_get (D := D) (ci := 2) (v := .int (nI (ln + 1))) (C := "TaleMachine$Script") (T := F_Script) (N := 2) hx hb hts in_Script hown hK hP 0 rfl rfl 1 (by decide) (hts _ k_33) (fun _ h9 => h9) rfl d_Script_append_53 ?_
    refine lv_iconst (v := 1) hx hb d_Script_append_56 (by decide) ?_
    refine lv_iadd hx hb d_Script_append_57 ?_
    refine lv_topi (fun z11 hz11 => ?_)
    obtain rfl : z11 = nI ((ln + 1) + 1) := hz11.trans (nI_add (ln + 1) 1)
    refine va_put (D := D) (ci := 2) (v := .int (nI ((ln + 1) + 1))) (ty := .int) (C := "TaleMachine$Script") (T := F_Script) (N := 2) hx hb hts in_Script t_Script t_Script_ok n_Script hown hK hP hD hS 0 rfl rfl 1 (by decide) (hts _ k_33) (fun _ h9 => h9) rfl (by decide +kernel) rfl rfl (Nat.le_of_ble_eq_true rfl) d_Script_append_58 (fun H locs hP hD hS => ?_)
    have hP : va_P D cL [(h, .inr (2, [.ref by_, .int (nI ((ln + 1) + 1))])), (by_, .inl (cI, 300, .inl (upd (upd fb ln (z5 &&& 255)) (ln + 1) (z9 &&& 255))))] H := hP
    have hD : va_D A [(h, .inr (2, [.ref by_, .int (nI ((ln + 1) + 1))])), (by_, .inl (cI, 300, .inl (upd (upd fb ln (z5 &&& 255)) (ln + 1) (z9 &&& 255))))] := hD
    refine lv_iinc (v := 1) (lv' := [(3, .int 1), (0, .ref h), (1, .int wd), (2, .int 4)]) hx hb d_Script_append_61 hl (k := 0) rfl (by decide) (by decide) rfl (fun ls hl => ?_)
    refine lv_goto hx hb d_Script_append_64 (tgt := 28) (by decide) ?_
    refine lv_iload_n hx hb d_Script_append_28 rfl (lv_at hl 0 rfl) ?_
    refine lv_if_lt hx hb d_Script_append_29 (tgt := 67) (by decide) (fun hz => absurd hz (by decide)) (fun _ => ?_)
    refine lv_aload_n hx hb d_Script_append_32 rfl (lv_at hl 1 rfl) ?_
    refine va_get (D := D) (ci := 2) (v := .ref by_) (C := "TaleMachine$Script") (T := F_Script) (N := 2) hx hb hts in_Script hown hK hP 0 rfl rfl 0 (by decide) (hts _ k_32) (fun _ h9 => h9) rfl d_Script_append_33 ?_
    refine lv_aload_n hx hb d_Script_append_36 rfl (lv_at hl 1 rfl) ?_
    refine va_get (D := D) (ci := 2) (v := .int (nI ((ln + 1) + 1))) (C := "TaleMachine$Script") (T := F_Script) (N := 2) hx hb hts in_Script hown hK hP 0 rfl rfl 1 (by decide) (hts _ k_33) (fun _ h9 => h9) rfl d_Script_append_37 ?_
    refine lv_iload_n hx hb d_Script_append_40 rfl (lv_at hl 2 rfl) ?_
    refine lv_bipush (v := 8) hx hb d_Script_append_41 (by decide) ?_
    refine lv_iload_n hx hb d_Script_append_43 rfl (lv_at hl 0 rfl) ?_
    refine lv_imul hx hb d_Script_append_44 ?_
    refine lv_topi (fun z12 hz12 => ?_)
    obtain rfl : z12 = 8 := hz12.trans (by decide)
    refine lv_iushr hx hb d_Script_append_45 rfl ?_
    refine lv_topi (fun z13 hz13 => ?_)
    refine lv_sipush (v := 255) hx hb d_Script_append_46 (by decide) ?_
    refine lv_iand hx hb d_Script_append_49 ?_
    refine lv_topi (fun z14 hz14 => ?_)
    obtain rfl : z14 = (z13 &&& 255) := hz14.trans (rfl)
    refine ia_st hx hb hK hP hD hS 1 0 rfl rfl (k := (ln + 1) + 1) (x := (z13 &&& 255)) (by omega) (by first | decide | assumption) d_Script_append_50 (fun H locs hP hD hS => ?_)
    have hP : va_P D cL [(h, .inr (2, [.ref by_, .int (nI ((ln + 1) + 1))])), (by_, .inl (cI, 300, .inl (upd (upd (upd fb ln (z5 &&& 255)) (ln + 1) (z9 &&& 255)) ((ln + 1) + 1) (z13 &&& 255))))] H := hP
    have hD : va_D A [(h, .inr (2, [.ref by_, .int (nI ((ln + 1) + 1))])), (by_, .inl (cI, 300, .inl (upd (upd (upd fb ln (z5 &&& 255)) (ln + 1) (z9 &&& 255)) ((ln + 1) + 1) (z13 &&& 255))))] := hD
    refine lv_aload_n hx hb d_Script_append_51 rfl (lv_at hl 1 rfl) ?_
    refine lv_dup hx hb d_Script_append_52 rfl ?_
    refine va_get (D := D) (ci := 2) (v := .int (nI ((ln + 1) + 1))) (C := "TaleMachine$Script") (T := F_Script) (N := 2) hx hb hts in_Script hown hK hP 0 rfl rfl 1 (by decide) (hts _ k_33) (fun _ h9 => h9) rfl d_Script_append_53 ?_
    refine lv_iconst (v := 1) hx hb d_Script_append_56 (by decide) ?_
    refine lv_iadd hx hb d_Script_append_57 ?_
    refine lv_topi (fun z15 hz15 => ?_)
    obtain rfl : z15 = nI (((ln + 1) + 1) + 1) := hz15.trans (nI_add ((ln + 1) + 1) 1)
    refine va_put (D := D) (ci := 2) (v := .int (nI (((ln + 1) + 1) + 1))) (ty := .int) (C := "TaleMachine$Script") (T := F_Script) (N := 2) hx hb hts in_Script t_Script t_Script_ok n_Script hown hK hP hD hS 0 rfl rfl 1 (by decide) (hts _ k_33) (fun _ h9 => h9) rfl (by decide +kernel) rfl rfl (Nat.le_of_ble_eq_true rfl) d_Script_append_58 (fun H locs hP hD hS => ?_)
    have hP : va_P D cL [(h, .inr (2, [.ref by_, .int (nI (((ln + 1) + 1) + 1))])), (by_, .inl (cI, 300, .inl (upd (upd (upd fb ln (z5 &&& 255)) (ln + 1) (z9 &&& 255)) ((ln + 1) + 1) (z13 &&& 255))))] H := hP
    have hD : va_D A [(h, .inr (2, [.ref by_, .int (nI (((ln + 1) + 1) + 1))])), (by_, .inl (cI, 300, .inl (upd (upd (upd fb ln (z5 &&& 255)) (ln + 1) (z9 &&& 255)) ((ln + 1) + 1) (z13 &&& 255))))] := hD
    refine lv_iinc (v := 0) (lv' := [(3, .int 0), (0, .ref h), (1, .int wd), (2, .int 4)]) hx hb d_Script_append_61 hl (k := 0) rfl (by decide) (by decide) rfl (fun ls hl => ?_)
    refine lv_goto hx hb d_Script_append_64 (tgt := 28) (by decide) ?_
    refine lv_iload_n hx hb d_Script_append_28 rfl (lv_at hl 0 rfl) ?_
    refine lv_if_lt hx hb d_Script_append_29 (tgt := 67) (by decide) (fun hz => absurd hz (by decide)) (fun _ => ?_)
    refine lv_aload_n hx hb d_Script_append_32 rfl (lv_at hl 1 rfl) ?_
    refine va_get (D := D) (ci := 2) (v := .ref by_) (C := "TaleMachine$Script") (T := F_Script) (N := 2) hx hb hts in_Script hown hK hP 0 rfl rfl 0 (by decide) (hts _ k_32) (fun _ h9 => h9) rfl d_Script_append_33 ?_
    refine lv_aload_n hx hb d_Script_append_36 rfl (lv_at hl 1 rfl) ?_
    refine va_get (D := D) (ci := 2) (v := .int (nI (((ln + 1) + 1) + 1))) (C := "TaleMachine$Script") (T := F_Script) (N := 2) hx hb hts in_Script hown hK hP 0 rfl rfl 1 (by decide) (hts _ k_33) (fun _ h9 => h9) rfl d_Script_append_37 ?_
    refine lv_iload_n hx hb d_Script_append_40 rfl (lv_at hl 2 rfl) ?_
    refine lv_bipush (v := 8) hx hb d_Script_append_41 (by decide) ?_
    refine lv_iload_n hx hb d_Script_append_43 rfl (lv_at hl 0 rfl) ?_
    refine lv_imul hx hb d_Script_append_44 ?_
    refine lv_topi (fun z16 hz16 => ?_)
    obtain rfl : z16 = 0 := hz16.trans (by decide)
    refine lv_iushr hx hb d_Script_append_45 rfl ?_
    refine lv_topi (fun z17 hz17 => ?_)
    refine lv_sipush (v := 255) hx hb d_Script_append_46 (by decide) ?_
    refine lv_iand hx hb d_Script_append_49 ?_
    refine lv_topi (fun z18 hz18 => ?_)
    obtain rfl : z18 = (z17 &&& 255) := hz18.trans (rfl)
    refine ia_st hx hb hK hP hD hS 1 0 rfl rfl (k := ((ln + 1) + 1) + 1) (x := (z17 &&& 255)) (by omega) (by first | decide | assumption) d_Script_append_50 (fun H locs hP hD hS => ?_)
    have hP : va_P D cL [(h, .inr (2, [.ref by_, .int (nI (((ln + 1) + 1) + 1))])), (by_, .inl (cI, 300, .inl (upd (upd (upd (upd fb ln (z5 &&& 255)) (ln + 1) (z9 &&& 255)) ((ln + 1) + 1) (z13 &&& 255)) (((ln + 1) + 1) + 1) (z17 &&& 255))))] H := hP
    have hD : va_D A [(h, .inr (2, [.ref by_, .int (nI (((ln + 1) + 1) + 1))])), (by_, .inl (cI, 300, .inl (upd (upd (upd (upd fb ln (z5 &&& 255)) (ln + 1) (z9 &&& 255)) ((ln + 1) + 1) (z13 &&& 255)) (((ln + 1) + 1) + 1) (z17 &&& 255))))] := hD
    refine lv_aload_n hx hb d_Script_append_51 rfl (lv_at hl 1 rfl) ?_
    refine lv_dup hx hb d_Script_append_52 rfl ?_
    refine va_get (D := D) (ci := 2) (v := .int (nI (((ln + 1) + 1) + 1))) (C := "TaleMachine$Script") (T := F_Script) (N := 2) hx hb hts in_Script hown hK hP 0 rfl rfl 1 (by decide) (hts _ k_33) (fun _ h9 => h9) rfl d_Script_append_53 ?_
    refine lv_iconst (v := 1) hx hb d_Script_append_56 (by decide) ?_
    refine lv_iadd hx hb d_Script_append_57 ?_
    refine lv_topi (fun z19 hz19 => ?_)
    obtain rfl : z19 = nI ((((ln + 1) + 1) + 1) + 1) := hz19.trans (nI_add (((ln + 1) + 1) + 1) 1)
    refine va_put (D := D) (ci := 2) (v := .int (nI ((((ln + 1) + 1) + 1) + 1))) (ty := .int) (C := "TaleMachine$Script") (T := F_Script) (N := 2) hx hb hts in_Script t_Script t_Script_ok n_Script hown hK hP hD hS 0 rfl rfl 1 (by decide) (hts _ k_33) (fun _ h9 => h9) rfl (by decide +kernel) rfl rfl (Nat.le_of_ble_eq_true rfl) d_Script_append_58 (fun H locs hP hD hS => ?_)
    have hP : va_P D cL [(h, .inr (2, [.ref by_, .int (nI ((((ln + 1) + 1) + 1) + 1))])), (by_, .inl (cI, 300, .inl (upd (upd (upd (upd fb ln (z5 &&& 255)) (ln + 1) (z9 &&& 255)) ((ln + 1) + 1) (z13 &&& 255)) (((ln + 1) + 1) + 1) (z17 &&& 255))))] H := hP
    have hD : va_D A [(h, .inr (2, [.ref by_, .int (nI ((((ln + 1) + 1) + 1) + 1))])), (by_, .inl (cI, 300, .inl (upd (upd (upd (upd fb ln (z5 &&& 255)) (ln + 1) (z9 &&& 255)) ((ln + 1) + 1) (z13 &&& 255)) (((ln + 1) + 1) + 1) (z17 &&& 255))))] := hD
    refine lv_iinc (v := (-1)) (lv' := [(3, .int (-1)), (0, .ref h), (1, .int wd), (2, .int 4)]) hx hb d_Script_append_61 hl (k := 0) rfl (by decide) (by decide) rfl (fun ls hl => ?_)
    refine lv_goto hx hb d_Script_append_64 (tgt := 28) (by decide) ?_
    refine lv_iload_n hx hb d_Script_append_28 rfl (lv_at hl 0 rfl) ?_
    refine lv_if_lt hx hb d_Script_append_29 (tgt := 67) (by decide) (fun _ => ?_) (fun hz => absurd (by decide) hz)
    refine lv_iconst (v := 1) hx hb d_Script_append_67 (by decide) ?_
    exact end_z hx hb hr hlocks hS (u := (upd (upd (upd (upd fb ln (z5 &&& 255)) (ln + 1) (z9 &&& 255)) ((ln + 1) + 1) (z13 &&& 255)) (((ln + 1) + 1) + 1) (z17 &&& 255), (((ln + 1) + 1) + 1) + 1)) (r := 1) (at_end (hP.sub (ws' := [(h, .inr (2, [.ref by_, .int (nI ((((ln + 1) + 1) + 1) + 1))])), (by_, .inl (cI, 300, .inl (upd (upd (upd (upd fb ln (z5 &&& 255)) (ln + 1) (z9 &&& 255)) ((ln + 1) + 1) (z13 &&& 255)) (((ln + 1) + 1) + 1) (z17 &&& 255))))]) [0, 1] rfl) (hD.sub (ws' := [(h, .inr (2, [.ref by_, .int (nI ((((ln + 1) + 1) + 1) + 1))])), (by_, .inl (cI, 300, .inl (upd (upd (upd (upd fb ln (z5 &&& 255)) (ln + 1) (z9 &&& 255)) ((ln + 1) + 1) (z13 &&& 255)) (((ln + 1) + 1) + 1) (z17 &&& 255))))]) [0, 1] (by decide) rfl)) (⟨BY.up (BY.up (BY.up (BY.up (hB) _ (by_and _)) _ (by_and _)) _ (by_and _)) _ (by_and _), Or.inl ⟨rfl, by omega, by omega⟩⟩) (by decide) (Nat.le_of_ble_eq_true rfl) (Nat.le_of_ble_eq_true rfl) d_Script_append_68
  · have hc2N : ¬ (ln + 4) ≤ 300 := fun z9 => hc2 ((nI_leI (a := ln + 4) (b := 300) (by omega) (by omega)).mpr z9)
    refine lv_iconst (v := 0) hx hb d_Script_append_22 (by decide) ?_
    exact end_z hx hb hr hlocks hS (u := (fb, ln)) (r := 0) (at_end (hP.sub (ws' := [(h, .inr (2, [.ref by_, .int (nI ln)])), (by_, .inl (cI, 300, .inl fb))]) [0, 1] rfl) (hD.sub (ws' := [(h, .inr (2, [.ref by_, .int (nI ln)])), (by_, .inl (cI, 300, .inl fb))]) [0, 1] (by decide) rfl)) (⟨hB, Or.inr ⟨rfl, by omega, rfl⟩⟩) (by decide) (Nat.le_of_ble_eq_true rfl) (Nat.le_of_ble_eq_true rfl) d_Script_append_23

set_option maxHeartbeats 4000000 in
set_option maxRecDepth 100000 in
theorem s_append_lo (l : Launch) (D : va_G) (cI cZ cJ : ClassId) (h by_ : Nat) (ln : Nat) (fb : Nat → Int32) (wd kk : Int32) (sz : Nat) (hk : kk < 1) : Met l y_Script_append (.code y_Script_append prog_4_method_2_code 4 (some .boolean) :: AW) ({ frames := 0, cells := 0, slots := 0, locals := 0 }) (va_Pc [.ref h, .int wd, .int kk] (pre_ D [(h, .inr (2, [.ref by_, .int (nI ln)])), (by_, .inl (cI, 300, .inl fb))] [(cI, .int), (cZ, .boolean), (cJ, .long)] sz)) (va_Qi (fun (r : Int32) (u : Unit) => r = 0) (fun _ t => post_ D (va_A [(h, .inr (2, [.ref by_, .int (nI ln)])), (by_, .inl (cI, 300, .inl fb))] sz) [(h, .inr (2, [.ref by_, .int (nI ln)])), (by_, .inl (cI, 300, .inl fb))] t) (va_A [(h, .inr (2, [.ref by_, .int (nI ln)])), (by_, .inl (cI, 300, .inl fb))] sz)) 0 0 (va_A [(h, .inr (2, [.ref by_, .int (nI ln)])), (by_, .inl (cI, 300, .inl fb))] sz) := by
  refine Met.ofW (cc := prog_4_method_2_code) (maxL := 4) (ret := (some .boolean)) (by decide) rfl ?_
  intro p e s m args below meth c s₁ B hml hv
  obtain ⟨rfl, rfl, hP, hK, hD0, hT⟩ := hv
  have hx := B.exec
  have hb := B.bytes
  have hr := B.returns
  have hts0 := atoms_spec (ws := .code y_Script_append prog_4_method_2_code 4 (some .boolean) :: AW) B.pre
  have hts : ∀ w ∈ AW, w.before [.ref h, .int wd, .int kk].toArray s = true := fun w h => hts0 w (List.mem_cons_of_mem _ h)
  have hown : s.vm.findClass "TaleMachine$Script" = some m.cls := findClass_of_methodNamed B.named
  have hlocks := B.notSynchronized
  have hD := hD0.self (sz := s.heap.size)
  generalize hAe : va_A [(h, .inr (2, [.ref by_, .int (nI ln)])), (by_, .inl (cI, 300, .inl fb))] s.heap.size = A at hD ⊢
  have hA : ∀ q : Nat, s.heap.size ≤ q → A q := fun q h => by rw [← hAe]; exact Or.inr h
  have hS : va_S A s.heap s.heap [] := va_S.rf
  have hl := lv_entry ([.ref h, .int wd, .int kk]) (n := 4) (Nat.le_of_ble_eq_true rfl)
  rw [lg_entry_eq]
  generalize (lg_sl ([.ref h, .int wd, .int kk]) ++ List.replicate (4 - (lg_sl ([.ref h, .int wd, .int kk])).length) Slot.unset).toArray = ls at hl ⊢
  have hl : lv_has ls 4 [(0, .ref h), (1, .int wd), (2, .int kk)] := hl
  refine lv_iload_n hx hb d_Script_append_0 rfl (lv_at hl 2 rfl) ?_
  refine lv_iconst (v := 1) hx hb d_Script_append_1 (by decide) ?_
  refine lv_icmp_lt hx hb d_Script_append_2 (tgt := 22) (by decide) (fun _ => ?_) (fun hz => absurd hk hz)
  refine lv_iconst (v := 0) hx hb d_Script_append_22 (by decide) ?_
  exact end_z hx hb hr hlocks hS (u := ()) (r := 0) (at_end (hP.sub (ws' := [(h, .inr (2, [.ref by_, .int (nI ln)])), (by_, .inl (cI, 300, .inl fb))]) [0, 1] rfl) (hD.sub (ws' := [(h, .inr (2, [.ref by_, .int (nI ln)])), (by_, .inl (cI, 300, .inl fb))]) [0, 1] (by decide) rfl)) (rfl) (by decide) (Nat.le_of_ble_eq_true rfl) (Nat.le_of_ble_eq_true rfl) d_Script_append_23

set_option maxHeartbeats 4000000 in
set_option maxRecDepth 100000 in
theorem s_append_hi (l : Launch) (D : va_G) (cI cZ cJ : ClassId) (h by_ : Nat) (ln : Nat) (fb : Nat → Int32) (wd kk : Int32) (sz : Nat) (hk : 4 < kk) : Met l y_Script_append (.code y_Script_append prog_4_method_2_code 4 (some .boolean) :: AW) ({ frames := 0, cells := 0, slots := 0, locals := 0 }) (va_Pc [.ref h, .int wd, .int kk] (pre_ D [(h, .inr (2, [.ref by_, .int (nI ln)])), (by_, .inl (cI, 300, .inl fb))] [(cI, .int), (cZ, .boolean), (cJ, .long)] sz)) (va_Qi (fun (r : Int32) (u : Unit) => r = 0) (fun _ t => post_ D (va_A [(h, .inr (2, [.ref by_, .int (nI ln)])), (by_, .inl (cI, 300, .inl fb))] sz) [(h, .inr (2, [.ref by_, .int (nI ln)])), (by_, .inl (cI, 300, .inl fb))] t) (va_A [(h, .inr (2, [.ref by_, .int (nI ln)])), (by_, .inl (cI, 300, .inl fb))] sz)) 0 0 (va_A [(h, .inr (2, [.ref by_, .int (nI ln)])), (by_, .inl (cI, 300, .inl fb))] sz) := by
  refine Met.ofW (cc := prog_4_method_2_code) (maxL := 4) (ret := (some .boolean)) (by decide) rfl ?_
  intro p e s m args below meth c s₁ B hml hv
  obtain ⟨rfl, rfl, hP, hK, hD0, hT⟩ := hv
  have hx := B.exec
  have hb := B.bytes
  have hr := B.returns
  have hts0 := atoms_spec (ws := .code y_Script_append prog_4_method_2_code 4 (some .boolean) :: AW) B.pre
  have hts : ∀ w ∈ AW, w.before [.ref h, .int wd, .int kk].toArray s = true := fun w h => hts0 w (List.mem_cons_of_mem _ h)
  have hown : s.vm.findClass "TaleMachine$Script" = some m.cls := findClass_of_methodNamed B.named
  have hlocks := B.notSynchronized
  have hD := hD0.self (sz := s.heap.size)
  generalize hAe : va_A [(h, .inr (2, [.ref by_, .int (nI ln)])), (by_, .inl (cI, 300, .inl fb))] s.heap.size = A at hD ⊢
  have hA : ∀ q : Nat, s.heap.size ≤ q → A q := fun q h => by rw [← hAe]; exact Or.inr h
  have hS : va_S A s.heap s.heap [] := va_S.rf
  have hl := lv_entry ([.ref h, .int wd, .int kk]) (n := 4) (Nat.le_of_ble_eq_true rfl)
  rw [lg_entry_eq]
  generalize (lg_sl ([.ref h, .int wd, .int kk]) ++ List.replicate (4 - (lg_sl ([.ref h, .int wd, .int kk])).length) Slot.unset).toArray = ls at hl ⊢
  have hl : lv_has ls 4 [(0, .ref h), (1, .int wd), (2, .int kk)] := hl
  refine lv_iload_n hx hb d_Script_append_0 rfl (lv_at hl 2 rfl) ?_
  refine lv_iconst (v := 1) hx hb d_Script_append_1 (by decide) ?_
  refine lv_icmp_lt hx hb d_Script_append_2 (tgt := 22) (by decide) (fun hz => absurd hz (fun hz => absurd (Int32.lt_trans hk hz) (by decide))) (fun _ => ?_)
  refine lv_iload_n hx hb d_Script_append_5 rfl (lv_at hl 2 rfl) ?_
  refine lv_iconst (v := 4) hx hb d_Script_append_6 (by decide) ?_
  refine lv_icmp_gt hx hb d_Script_append_7 (tgt := 22) (by decide) (fun _ => ?_) (fun hz => absurd hk hz)
  refine lv_iconst (v := 0) hx hb d_Script_append_22 (by decide) ?_
  exact end_z hx hb hr hlocks hS (u := ()) (r := 0) (at_end (hP.sub (ws' := [(h, .inr (2, [.ref by_, .int (nI ln)])), (by_, .inl (cI, 300, .inl fb))]) [0, 1] rfl) (hD.sub (ws' := [(h, .inr (2, [.ref by_, .int (nI ln)])), (by_, .inl (cI, 300, .inl fb))]) [0, 1] (by decide) rfl)) (rfl) (by decide) (Nat.le_of_ble_eq_true rfl) (Nat.le_of_ble_eq_true rfl) d_Script_append_23

set_option maxHeartbeats 4000000 in
set_option maxRecDepth 100000 in
theorem v_isFull (l : Launch) (D : va_G) (cI cZ cJ : ClassId) (h vk vi : Nat) (ct nn : Nat) (f1 f2 : Nat → Int32) (sz : Nat) (hnn : nn < 2 ^ 31) (hct : ct ≤ nn) : Met l y_Values_isFull (.code y_Values_isFull prog_7_method_2_code 1 (some .boolean) :: AW) ({ frames := 0, cells := 0, slots := 0, locals := 0 }) (va_Pc [.ref h] (pre_ D [(h, .inr (5, [.ref vk, .ref vi, .int (nI ct)])), (vk, .inl (cI, nn, .inl f1)), (vi, .inl (cI, nn, .inl f2))] [(cI, .int), (cZ, .boolean), (cJ, .long)] sz)) (va_Qi (fun (r : Int32) (u : Unit) => (r = 0 ∨ r = 1) ∧ (r = 0 ↔ ct < nn)) (fun _ t => post_ D (va_A [(h, .inr (5, [.ref vk, .ref vi, .int (nI ct)])), (vk, .inl (cI, nn, .inl f1)), (vi, .inl (cI, nn, .inl f2))] sz) [(h, .inr (5, [.ref vk, .ref vi, .int (nI ct)])), (vk, .inl (cI, nn, .inl f1)), (vi, .inl (cI, nn, .inl f2))] t) (va_A [(h, .inr (5, [.ref vk, .ref vi, .int (nI ct)])), (vk, .inl (cI, nn, .inl f1)), (vi, .inl (cI, nn, .inl f2))] sz)) 0 0 (va_A [(h, .inr (5, [.ref vk, .ref vi, .int (nI ct)])), (vk, .inl (cI, nn, .inl f1)), (vi, .inl (cI, nn, .inl f2))] sz) := by
  refine Met.ofW (cc := prog_7_method_2_code) (maxL := 1) (ret := (some .boolean)) (by decide) rfl ?_
  intro p e s m args below meth c s₁ B hml hv
  obtain ⟨rfl, rfl, hP, hK, hD0, hT⟩ := hv
  have hx := B.exec
  have hb := B.bytes
  have hr := B.returns
  have hts0 := atoms_spec (ws := .code y_Values_isFull prog_7_method_2_code 1 (some .boolean) :: AW) B.pre
  have hts : ∀ w ∈ AW, w.before [.ref h].toArray s = true := fun w h => hts0 w (List.mem_cons_of_mem _ h)
  have hown : s.vm.findClass "TaleMachine$Values" = some m.cls := findClass_of_methodNamed B.named
  have hlocks := B.notSynchronized
  have hD := hD0.self (sz := s.heap.size)
  generalize hAe : va_A [(h, .inr (5, [.ref vk, .ref vi, .int (nI ct)])), (vk, .inl (cI, nn, .inl f1)), (vi, .inl (cI, nn, .inl f2))] s.heap.size = A at hD ⊢
  have hA : ∀ q : Nat, s.heap.size ≤ q → A q := fun q h => by rw [← hAe]; exact Or.inr h
  have hS : va_S A s.heap s.heap [] := va_S.rf
  have hl := lv_entry ([.ref h]) (n := 1) (Nat.le_of_ble_eq_true rfl)
  rw [lg_entry_eq]
  generalize (lg_sl ([.ref h]) ++ List.replicate (1 - (lg_sl ([.ref h])).length) Slot.unset).toArray = ls at hl ⊢
  have hl : lv_has ls 1 [(0, .ref h)] := hl
  refine lv_aload_n hx hb d_Values_isFull_0 rfl (lv_at hl 0 rfl) ?_
  refine va_get (D := D) (ci := 5) (v := .int (nI ct)) (C := "TaleMachine$Values") (T := F_Values) (N := 3) hx hb hts in_Values hown hK hP 0 rfl rfl 2 (by decide) (hts _ k_117) (fun _ h9 => h9) rfl d_Values_isFull_1 ?_
  refine lv_aload_n hx hb d_Values_isFull_4 rfl (lv_at hl 0 rfl) ?_
  refine va_get (D := D) (ci := 5) (v := .ref vk) (C := "TaleMachine$Values") (T := F_Values) (N := 3) hx hb hts in_Values hown hK hP 0 rfl rfl 0 (by decide) (hts _ k_111) (fun _ h9 => h9) rfl d_Values_isFull_5 ?_
  refine va_alen hx hb hK hP 1 0 rfl rfl (v := nI nn) rfl d_Values_isFull_8 ?_
  refine lv_icmp_lt hx hb d_Values_isFull_9 (tgt := 16) (by decide) (fun hc1 => ?_) (fun hc1 => ?_)
  · have hc1N : ct < nn := (nI_ltI (a := ct) (b := nn) (by omega) (by omega)).mp hc1
    refine lv_iconst (v := 0) hx hb d_Values_isFull_16 (by decide) ?_
    exact end_z hx hb hr hlocks hS (u := ()) (r := 0) (at_end (hP.sub (ws' := [(h, .inr (5, [.ref vk, .ref vi, .int (nI ct)])), (vk, .inl (cI, nn, .inl f1)), (vi, .inl (cI, nn, .inl f2))]) [0, 1, 2] rfl) (hD.sub (ws' := [(h, .inr (5, [.ref vk, .ref vi, .int (nI ct)])), (vk, .inl (cI, nn, .inl f1)), (vi, .inl (cI, nn, .inl f2))]) [0, 1, 2] (by decide) rfl)) (⟨Or.inl rfl, ⟨fun _ => by omega, fun _ => rfl⟩⟩) (by decide) (Nat.le_of_ble_eq_true rfl) (Nat.le_of_ble_eq_true rfl) d_Values_isFull_17
  · have hc1N : ¬ ct < nn := fun z9 => hc1 ((nI_ltI (a := ct) (b := nn) (by omega) (by omega)).mpr z9)
    refine lv_iconst (v := 1) hx hb d_Values_isFull_12 (by decide) ?_
    refine lv_goto hx hb d_Values_isFull_13 (tgt := 17) (by decide) ?_
    exact end_z hx hb hr hlocks hS (u := ()) (r := 1) (at_end (hP.sub (ws' := [(h, .inr (5, [.ref vk, .ref vi, .int (nI ct)])), (vk, .inl (cI, nn, .inl f1)), (vi, .inl (cI, nn, .inl f2))]) [0, 1, 2] rfl) (hD.sub (ws' := [(h, .inr (5, [.ref vk, .ref vi, .int (nI ct)])), (vk, .inl (cI, nn, .inl f1)), (vi, .inl (cI, nn, .inl f2))]) [0, 1, 2] (by decide) rfl)) (⟨Or.inr rfl, ⟨fun h9 => absurd h9 (by decide), fun h9 => absurd h9 (by omega)⟩⟩) (by decide) (Nat.le_of_ble_eq_true rfl) (Nat.le_of_ble_eq_true rfl) d_Values_isFull_17

set_option maxHeartbeats 4000000 in
set_option maxRecDepth 100000 in
theorem v_add (l : Launch) (D : va_G) (cI cZ cJ : ClassId) (h vk vi : Nat) (ct nn : Nat) (f1 f2 : Nat → Int32) (kd nb : Int32) (sz : Nat) (hnn : nn < 2 ^ 31) (hct : ct ≤ nn) : Met l y_Values_add (.code y_Values_add prog_7_method_3_code 3 (some .boolean) :: AW) ({ frames := 0, cells := 0, slots := 0, locals := 0 }) (va_Pc [.ref h, .int kd, .int nb] (pre_ D [(h, .inr (5, [.ref vk, .ref vi, .int (nI ct)])), (vk, .inl (cI, nn, .inl f1)), (vi, .inl (cI, nn, .inl f2))] [(cI, .int), (cZ, .boolean), (cJ, .long)] sz)) (va_Qi (fun (r : Int32) (u : Nat × (Nat → Int32) × (Nat → Int32)) => (r = 1 ∧ ct < nn ∧ u = (ct + 1, upd f1 ct kd, upd f2 ct nb)) ∨ (r = 0 ∧ ¬ ct < nn ∧ u = (ct, f1, f2))) (fun u t => match u with | (ct2, g1, g2) => post_ D (va_A [(h, .inr (5, [.ref vk, .ref vi, .int (nI ct)])), (vk, .inl (cI, nn, .inl f1)), (vi, .inl (cI, nn, .inl f2))] sz) [(h, .inr (5, [.ref vk, .ref vi, .int (nI ct2)])), (vk, .inl (cI, nn, .inl g1)), (vi, .inl (cI, nn, .inl g2))] t) (va_A [(h, .inr (5, [.ref vk, .ref vi, .int (nI ct)])), (vk, .inl (cI, nn, .inl f1)), (vi, .inl (cI, nn, .inl f2))] sz)) 0 0 (va_A [(h, .inr (5, [.ref vk, .ref vi, .int (nI ct)])), (vk, .inl (cI, nn, .inl f1)), (vi, .inl (cI, nn, .inl f2))] sz) := by
  refine Met.ofW (cc := prog_7_method_3_code) (maxL := 3) (ret := (some .boolean)) (by decide) rfl ?_
  intro p e s m args below meth c s₁ B hml hv
  obtain ⟨rfl, rfl, hP, hK, hD0, hT⟩ := hv
  have hx := B.exec
  have hb := B.bytes
  have hr := B.returns
  have hts0 := atoms_spec (ws := .code y_Values_add prog_7_method_3_code 3 (some .boolean) :: AW) B.pre
  have hts : ∀ w ∈ AW, w.before [.ref h, .int kd, .int nb].toArray s = true := fun w h => hts0 w (List.mem_cons_of_mem _ h)
  have hown : s.vm.findClass "TaleMachine$Values" = some m.cls := findClass_of_methodNamed B.named
  have hlocks := B.notSynchronized
  have hD := hD0.self (sz := s.heap.size)
  generalize hAe : va_A [(h, .inr (5, [.ref vk, .ref vi, .int (nI ct)])), (vk, .inl (cI, nn, .inl f1)), (vi, .inl (cI, nn, .inl f2))] s.heap.size = A at hD ⊢
  have hA : ∀ q : Nat, s.heap.size ≤ q → A q := fun q h => by rw [← hAe]; exact Or.inr h
  have hS : va_S A s.heap s.heap [] := va_S.rf
  have hl := lv_entry ([.ref h, .int kd, .int nb]) (n := 3) (Nat.le_of_ble_eq_true rfl)
  rw [lg_entry_eq]
  generalize (lg_sl ([.ref h, .int kd, .int nb]) ++ List.replicate (3 - (lg_sl ([.ref h, .int kd, .int nb])).length) Slot.unset).toArray = ls at hl ⊢
  have hl : lv_has ls 3 [(0, .ref h), (1, .int kd), (2, .int nb)] := hl
  refine lv_aload_n hx hb d_Values_add_0 rfl (lv_at hl 0 rfl) ?_
  refine va_get (D := D) (ci := 5) (v := .int (nI ct)) (C := "TaleMachine$Values") (T := F_Values) (N := 3) hx hb hts in_Values hown hK hP 0 rfl rfl 2 (by decide) (hts _ k_117) (fun _ h9 => h9) rfl d_Values_add_1 ?_
  refine lv_aload_n hx hb d_Values_add_4 rfl (lv_at hl 0 rfl) ?_
  refine va_get (D := D) (ci := 5) (v := .ref vk) (C := "TaleMachine$Values") (T := F_Values) (N := 3) hx hb hts in_Values hown hK hP 0 rfl rfl 0 (by decide) (hts _ k_111) (fun _ h9 => h9) rfl d_Values_add_5 ?_
  refine va_alen hx hb hK hP 1 0 rfl rfl (v := nI nn) rfl d_Values_add_8 ?_
  refine lv_icmp_lt hx hb d_Values_add_9 (tgt := 14) (by decide) (fun hc1 => ?_) (fun hc1 => ?_)
  · have hc1N : ct < nn := (nI_ltI (a := ct) (b := nn) (by omega) (by omega)).mp hc1
    refine lv_aload_n hx hb d_Values_add_14 rfl (lv_at hl 0 rfl) ?_
    refine va_get (D := D) (ci := 5) (v := .ref vk) (C := "TaleMachine$Values") (T := F_Values) (N := 3) hx hb hts in_Values hown hK hP 0 rfl rfl 0 (by decide) (hts _ k_111) (fun _ h9 => h9) rfl d_Values_add_15 ?_
    refine lv_aload_n hx hb d_Values_add_18 rfl (lv_at hl 0 rfl) ?_
    refine va_get (D := D) (ci := 5) (v := .int (nI ct)) (C := "TaleMachine$Values") (T := F_Values) (N := 3) hx hb hts in_Values hown hK hP 0 rfl rfl 2 (by decide) (hts _ k_117) (fun _ h9 => h9) rfl d_Values_add_19 ?_
    refine lv_iload_n hx hb d_Values_add_22 rfl (lv_at hl 1 rfl) ?_
    refine ia_st hx hb hK hP hD hS 1 0 rfl rfl (k := ct) (x := kd) (by omega) (by first | decide | assumption) d_Values_add_23 (fun H locs hP hD hS => ?_)
    have hP : va_P D cL [(h, .inr (5, [.ref vk, .ref vi, .int (nI ct)])), (vk, .inl (cI, nn, .inl (upd f1 ct kd))), (vi, .inl (cI, nn, .inl f2))] H := hP
    have hD : va_D A [(h, .inr (5, [.ref vk, .ref vi, .int (nI ct)])), (vk, .inl (cI, nn, .inl (upd f1 ct kd))), (vi, .inl (cI, nn, .inl f2))] := hD
    refine lv_aload_n hx hb d_Values_add_24 rfl (lv_at hl 0 rfl) ?_
    refine va_get (D := D) (ci := 5) (v := .ref vi) (C := "TaleMachine$Values") (T := F_Values) (N := 3) hx hb hts in_Values hown hK hP 0 rfl rfl 1 (by decide) (hts _ k_114) (fun _ h9 => h9) rfl d_Values_add_25 ?_
    refine lv_aload_n hx hb d_Values_add_28 rfl (lv_at hl 0 rfl) ?_
    refine va_get (D := D) (ci := 5) (v := .int (nI ct)) (C := "TaleMachine$Values") (T := F_Values) (N := 3) hx hb hts in_Values hown hK hP 0 rfl rfl 2 (by decide) (hts _ k_117) (fun _ h9 => h9) rfl d_Values_add_29 ?_
    refine lv_iload_n hx hb d_Values_add_32 rfl (lv_at hl 2 rfl) ?_
    refine ia_st hx hb hK hP hD hS 2 0 rfl rfl (k := ct) (x := nb) (by omega) (by first | decide | assumption) d_Values_add_33 (fun H locs hP hD hS => ?_)
    have hP : va_P D cL [(h, .inr (5, [.ref vk, .ref vi, .int (nI ct)])), (vk, .inl (cI, nn, .inl (upd f1 ct kd))), (vi, .inl (cI, nn, .inl (upd f2 ct nb)))] H := hP
    have hD : va_D A [(h, .inr (5, [.ref vk, .ref vi, .int (nI ct)])), (vk, .inl (cI, nn, .inl (upd f1 ct kd))), (vi, .inl (cI, nn, .inl (upd f2 ct nb)))] := hD
    refine lv_aload_n hx hb d_Values_add_34 rfl (lv_at hl 0 rfl) ?_
    refine lv_dup hx hb d_Values_add_35 rfl ?_
    refine va_get (D := D) (ci := 5) (v := .int (nI ct)) (C := "TaleMachine$Values") (T := F_Values) (N := 3) hx hb hts in_Values hown hK hP 0 rfl rfl 2 (by decide) (hts _ k_117) (fun _ h9 => h9) rfl d_Values_add_36 ?_
    refine lv_iconst (v := 1) hx hb d_Values_add_39 (by decide) ?_
    refine lv_iadd hx hb d_Values_add_40 ?_
    refine lv_topi (fun z2 hz2 => ?_)
    obtain rfl : z2 = nI (ct + 1) := hz2.trans (nI_add ct 1)
    refine va_put (D := D) (ci := 5) (v := .int (nI (ct + 1))) (ty := .int) (C := "TaleMachine$Values") (T := F_Values) (N := 3) hx hb hts in_Values t_Values t_Values_ok n_Values hown hK hP hD hS 0 rfl rfl 2 (by decide) (hts _ k_117) (fun _ h9 => h9) rfl (by decide +kernel) rfl rfl (Nat.le_of_ble_eq_true rfl) d_Values_add_41 (fun H locs hP hD hS => ?_)
    have hP : va_P D cL [(h, .inr (5, [.ref vk, .ref vi, .int (nI (ct + 1))])), (vk, .inl (cI, nn, .inl (upd f1 ct kd))), (vi, .inl (cI, nn, .inl (upd f2 ct nb)))] H := hP
    have hD : va_D A [(h, .inr (5, [.ref vk, .ref vi, .int (nI (ct + 1))])), (vk, .inl (cI, nn, .inl (upd f1 ct kd))), (vi, .inl (cI, nn, .inl (upd f2 ct nb)))] := hD
    refine lv_iconst (v := 1) hx hb d_Values_add_44 (by decide) ?_
    exact end_z hx hb hr hlocks hS (u := (ct + 1, upd f1 ct kd, upd f2 ct nb)) (r := 1) (at_end (hP.sub (ws' := [(h, .inr (5, [.ref vk, .ref vi, .int (nI (ct + 1))])), (vk, .inl (cI, nn, .inl (upd f1 ct kd))), (vi, .inl (cI, nn, .inl (upd f2 ct nb)))]) [0, 1, 2] rfl) (hD.sub (ws' := [(h, .inr (5, [.ref vk, .ref vi, .int (nI (ct + 1))])), (vk, .inl (cI, nn, .inl (upd f1 ct kd))), (vi, .inl (cI, nn, .inl (upd f2 ct nb)))]) [0, 1, 2] (by decide) rfl)) (Or.inl ⟨rfl, by omega, rfl⟩) (by decide) (Nat.le_of_ble_eq_true rfl) (Nat.le_of_ble_eq_true rfl) d_Values_add_45
  · have hc1N : ¬ ct < nn := fun z9 => hc1 ((nI_ltI (a := ct) (b := nn) (by omega) (by omega)).mpr z9)
    refine lv_iconst (v := 0) hx hb d_Values_add_12 (by decide) ?_
    exact end_z hx hb hr hlocks hS (u := (ct, f1, f2)) (r := 0) (at_end (hP.sub (ws' := [(h, .inr (5, [.ref vk, .ref vi, .int (nI ct)])), (vk, .inl (cI, nn, .inl f1)), (vi, .inl (cI, nn, .inl f2))]) [0, 1, 2] rfl) (hD.sub (ws' := [(h, .inr (5, [.ref vk, .ref vi, .int (nI ct)])), (vk, .inl (cI, nn, .inl f1)), (vi, .inl (cI, nn, .inl f2))]) [0, 1, 2] (by decide) rfl)) (Or.inr ⟨rfl, by omega, rfl⟩) (by decide) (Nat.le_of_ble_eq_true rfl) (Nat.le_of_ble_eq_true rfl) d_Values_add_13
