set_option maxHeartbeats 4000000 in
set_option maxRecDepth 100000 in
theorem c_Script_init (l : Launch) (D : va_G) (cI cZ cJ : ClassId) (h : Nat) (sz : Nat)  : Met l y_Script_init (.code y_Script_init prog_4_method_1_code 1 none :: AW) ({ frames := 1, cells := 1, slots := 300, locals := 14 }) (va_Pc [.ref h] (pre_ D [(h, .inr (2, [.null, .int 0]))] [(cI, .int), (cZ, .boolean), (cJ, .long)] sz)) (va_Qv (fun (u : Nat) => True) (fun u t => match u with | by_ => post_ D (va_A [(h, .inr (2, [.null, .int 0]))] sz) [(h, .inr (2, [.ref by_, .int 0])), (by_, .inl (cI, 300, .inl (fun _ => 0)))] t) (va_A [(h, .inr (2, [.null, .int 0]))] sz)) 1 300 (va_A [(h, .inr (2, [.null, .int 0]))] sz) := by
  refine Met.ofW (cc := prog_4_method_1_code) (maxL := 1) (ret := none) (by decide) rfl ?_
  intro p e s m args below meth c s₁ B hml hv
  obtain ⟨rfl, rfl, hP, hK, hD0, hT⟩ := hv
  have hx := B.exec
  have hb := B.bytes
  have hr := B.returns
  have hts0 := atoms_spec (ws := .code y_Script_init prog_4_method_1_code 1 none :: AW) B.pre
  have hts : ∀ w ∈ AW, w.before [.ref h].toArray s = true := fun w h => hts0 w (List.mem_cons_of_mem _ h)
  have hown : s.vm.findClass "TaleMachine$Script" = some m.cls := findClass_of_methodNamed B.named
  have hlocks := B.notSynchronized
  have hin : meth.name = "<init>" := (name_of_methodNamed B.named B.method).1
  have hD := hD0.self (sz := s.heap.size)
  generalize hAe : va_A [(h, .inr (2, [.null, .int 0]))] s.heap.size = A at hD ⊢
  have hA : ∀ q : Nat, s.heap.size ≤ q → A q := fun q h => by rw [← hAe]; exact Or.inr h
  have hS : va_S A s.heap s.heap [] := va_S.rf
  have hl := lv_entry ([.ref h]) (n := 1) (Nat.le_of_ble_eq_true rfl)
  rw [lg_entry_eq]
  generalize (lg_sl ([.ref h]) ++ List.replicate (1 - (lg_sl ([.ref h])).length) Slot.unset).toArray = ls at hl ⊢
  have hl : lv_has ls 1 [(0, .ref h)] := hl
  refine lv_aload_n hx hb d_Script_init_0 rfl (lv_at hl 0 rfl) ?_
  refine W.objInit hx hb hown (hts _ k_41) (hts _ k_42) (hts _ k_43) rfl (by rw [hml]; exact hl.1) rfl d_Script_init_1 (Nat.le_of_ble_eq_true rfl) (Nat.le_of_ble_eq_true rfl) ?_
  refine W.eq (g2 := F0 m 4 ls []) rfl ?_
  refine lv_aload_n hx hb d_Script_init_4 rfl (lv_at hl 0 rfl) ?_
  refine lv_sipush (v := 300) hx hb d_Script_init_5 (by decide) ?_
  refine nw_i hx hb (hts _ k_44) hK 0 rfl hP hD hS hA (n := 300) (N' := 300) (by decide) (by decide) (by decide) (Nat.le_of_ble_eq_true rfl) (Nat.le_of_ble_eq_true rfl) d_Script_init_8 (fun q1 H hP hD hS => ?_)
  have hP : va_P D cL [(h, .inr (2, [.null, .int 0])), (q1, .inl (cI, 300, .inl (fun _ => 0)))] H := hP
  have hD : va_D A [(h, .inr (2, [.null, .int 0])), (q1, .inl (cI, 300, .inl (fun _ => 0)))] := hD
  refine W.widen (k := 1) (n := 300) (Nat.le_of_ble_eq_true rfl) (Nat.le_of_ble_eq_true rfl) ?_
  refine va_putF (D := D) (ci := 2) (v := .ref q1) (ty := .array .int) (C := "TaleMachine$Script") (T := F_Script) (N := 2) hx hb hts in_Script t_Script t_Script_ok n_Script hown hK hP hD hS 0 rfl rfl 0 (by decide) (hts _ k_45) (fun _ h9 => h9) rfl hin rfl (by decide +kernel) rfl rfl (Nat.le_of_ble_eq_true rfl) d_Script_init_10 (fun H locs hP hD hS => ?_)
  have hP : va_P D cL [(h, .inr (2, [.ref q1, .int 0])), (q1, .inl (cI, 300, .inl (fun _ => 0)))] H := hP
  have hD : va_D A [(h, .inr (2, [.ref q1, .int 0])), (q1, .inl (cI, 300, .inl (fun _ => 0)))] := hD
  exact end_v hx hb hr hlocks hS (u := q1) (at_end (hP.sub (ws' := [(h, .inr (2, [.ref q1, .int 0])), (q1, .inl (cI, 300, .inl (fun _ => 0)))]) [0, 1] rfl) (hD.sub (ws' := [(h, .inr (2, [.ref q1, .int 0])), (q1, .inl (cI, 300, .inl (fun _ => 0)))]) [0, 1] (by decide) rfl)) (trivial) (Nat.le_of_ble_eq_true rfl) (Nat.le_of_ble_eq_true rfl) d_Script_init_13

set_option maxHeartbeats 4000000 in
set_option maxRecDepth 100000 in
theorem c_Frame_init (l : Launch) (D : va_G) (cI cZ cJ : ClassId) (h : Nat) (sz : Nat)  : Met l y_Frame_init (.code y_Frame_init prog_2_method_1_code 1 none :: AW) ({ frames := 1, cells := 0, slots := 0, locals := 14 }) (va_Pc [.ref h] (pre_ D [(h, .inr (0, [.int 0, .int 0, .int 0, .int 0, .int 0, .int 0, .int 0, .int 0]))] [(cI, .int), (cZ, .boolean), (cJ, .long)] sz)) (va_Qv (fun (u : Unit) => True) (fun _ t => post_ D (va_A [(h, .inr (0, [.int 0, .int 0, .int 0, .int 0, .int 0, .int 0, .int 0, .int 0]))] sz) [(h, .inr (0, [.int 0, .int 0, .int 0, .int 0, .int 0, .int 0, .int 0, .int 0]))] t) (va_A [(h, .inr (0, [.int 0, .int 0, .int 0, .int 0, .int 0, .int 0, .int 0, .int 0]))] sz)) 0 0 (va_A [(h, .inr (0, [.int 0, .int 0, .int 0, .int 0, .int 0, .int 0, .int 0, .int 0]))] sz) := by
  refine Met.ofW (cc := prog_2_method_1_code) (maxL := 1) (ret := none) (by decide) rfl ?_
  intro p e s m args below meth c s₁ B hml hv
  obtain ⟨rfl, rfl, hP, hK, hD0, hT⟩ := hv
  have hx := B.exec
  have hb := B.bytes
  have hr := B.returns
  have hts0 := atoms_spec (ws := .code y_Frame_init prog_2_method_1_code 1 none :: AW) B.pre
  have hts : ∀ w ∈ AW, w.before [.ref h].toArray s = true := fun w h => hts0 w (List.mem_cons_of_mem _ h)
  have hown : s.vm.findClass "TaleMachine$Frame" = some m.cls := findClass_of_methodNamed B.named
  have hlocks := B.notSynchronized
  have hin : meth.name = "<init>" := (name_of_methodNamed B.named B.method).1
  have hD := hD0.self (sz := s.heap.size)
  generalize hAe : va_A [(h, .inr (0, [.int 0, .int 0, .int 0, .int 0, .int 0, .int 0, .int 0, .int 0]))] s.heap.size = A at hD ⊢
  have hA : ∀ q : Nat, s.heap.size ≤ q → A q := fun q h => by rw [← hAe]; exact Or.inr h
  have hS : va_S A s.heap s.heap [] := va_S.rf
  have hl := lv_entry ([.ref h]) (n := 1) (Nat.le_of_ble_eq_true rfl)
  rw [lg_entry_eq]
  generalize (lg_sl ([.ref h]) ++ List.replicate (1 - (lg_sl ([.ref h])).length) Slot.unset).toArray = ls at hl ⊢
  have hl : lv_has ls 1 [(0, .ref h)] := hl
  refine lv_aload_n hx hb d_Frame_init_0 rfl (lv_at hl 0 rfl) ?_
  refine W.objInit hx hb hown (hts _ k_46) (hts _ k_42) (hts _ k_43) rfl (by rw [hml]; exact hl.1) rfl d_Frame_init_1 (Nat.le_of_ble_eq_true rfl) (Nat.le_of_ble_eq_true rfl) ?_
  refine W.eq (g2 := F0 m 4 ls []) rfl ?_
  exact end_v hx hb hr hlocks hS (u := ()) (at_end (hP.sub (ws' := [(h, .inr (0, [.int 0, .int 0, .int 0, .int 0, .int 0, .int 0, .int 0, .int 0]))]) [0] rfl) (hD.sub (ws' := [(h, .inr (0, [.int 0, .int 0, .int 0, .int 0, .int 0, .int 0, .int 0, .int 0]))]) [0] (by decide) rfl)) (trivial) (Nat.le_of_ble_eq_true rfl) (Nat.le_of_ble_eq_true rfl) d_Frame_init_4

set_option maxHeartbeats 4000000 in
set_option maxRecDepth 100000 in
theorem c_Values_init_40 (l : Launch) (D : va_G) (cI cZ cJ : ClassId) (h : Nat) (sz : Nat)  : Met l y_Values_init (.code y_Values_init prog_7_method_1_code 2 none :: AW) ({ frames := 1, cells := 2, slots := 80, locals := 14 }) (va_Pc [.ref h, .int 40] (pre_ D [(h, .inr (5, [.null, .null, .int 0]))] [(cI, .int), (cZ, .boolean), (cJ, .long)] sz)) (va_Qv (fun (u : Nat × Nat) => True) (fun u t => match u with | (vk, vi) => post_ D (va_A [(h, .inr (5, [.null, .null, .int 0]))] sz) [(h, .inr (5, [.ref vk, .ref vi, .int 0]))] t) (va_A [(h, .inr (5, [.null, .null, .int 0]))] sz)) 2 80 (va_A [(h, .inr (5, [.null, .null, .int 0]))] sz) := by
  refine Met.ofW (cc := prog_7_method_1_code) (maxL := 2) (ret := none) (by decide) rfl ?_
  intro p e s m args below meth c s₁ B hml hv
  obtain ⟨rfl, rfl, hP, hK, hD0, hT⟩ := hv
  have hx := B.exec
  have hb := B.bytes
  have hr := B.returns
  have hts0 := atoms_spec (ws := .code y_Values_init prog_7_method_1_code 2 none :: AW) B.pre
  have hts : ∀ w ∈ AW, w.before [.ref h, .int 40].toArray s = true := fun w h => hts0 w (List.mem_cons_of_mem _ h)
  have hown : s.vm.findClass "TaleMachine$Values" = some m.cls := findClass_of_methodNamed B.named
  have hlocks := B.notSynchronized
  have hin : meth.name = "<init>" := (name_of_methodNamed B.named B.method).1
  have hD := hD0.self (sz := s.heap.size)
  generalize hAe : va_A [(h, .inr (5, [.null, .null, .int 0]))] s.heap.size = A at hD ⊢
  have hA : ∀ q : Nat, s.heap.size ≤ q → A q := fun q h => by rw [← hAe]; exact Or.inr h
  have hS : va_S A s.heap s.heap [] := va_S.rf
  have hl := lv_entry ([.ref h, .int 40]) (n := 2) (Nat.le_of_ble_eq_true rfl)
  rw [lg_entry_eq]
  generalize (lg_sl ([.ref h, .int 40]) ++ List.replicate (2 - (lg_sl ([.ref h, .int 40])).length) Slot.unset).toArray = ls at hl ⊢
  have hl : lv_has ls 2 [(0, .ref h), (1, .int 40)] := hl
  refine lv_aload_n hx hb d_Values_init_0 rfl (lv_at hl 0 rfl) ?_
  refine W.objInit hx hb hown (hts _ k_47) (hts _ k_42) (hts _ k_43) rfl (by rw [hml]; exact hl.1) rfl d_Values_init_1 (Nat.le_of_ble_eq_true rfl) (Nat.le_of_ble_eq_true rfl) ?_
  refine W.eq (g2 := F0 m 4 ls []) rfl ?_
  refine lv_aload_n hx hb d_Values_init_4 rfl (lv_at hl 0 rfl) ?_
  refine lv_iload_n hx hb d_Values_init_5 rfl (lv_at hl 1 rfl) ?_
  refine nw_i hx hb (hts _ k_44) hK 0 rfl hP hD hS hA (n := 40) (N' := 40) (by decide) (by decide) (by decide) (Nat.le_of_ble_eq_true rfl) (Nat.le_of_ble_eq_true rfl) d_Values_init_6 (fun q1 H hP hD hS => ?_)
  have hP : va_P D cL [(h, .inr (5, [.null, .null, .int 0])), (q1, .inl (cI, 40, .inl (fun _ => 0)))] H := hP
  have hD : va_D A [(h, .inr (5, [.null, .null, .int 0])), (q1, .inl (cI, 40, .inl (fun _ => 0)))] := hD
  refine W.widen (k := 1) (n := 40) (Nat.le_of_ble_eq_true rfl) (Nat.le_of_ble_eq_true rfl) ?_
  refine va_putF (D := D) (ci := 5) (v := .ref q1) (ty := .array .int) (C := "TaleMachine$Values") (T := F_Values) (N := 3) hx hb hts in_Values t_Values t_Values_ok n_Values hown hK hP hD hS 0 rfl rfl 0 (by decide) (hts _ k_48) (fun _ h9 => h9) rfl hin rfl (by decide +kernel) rfl rfl (Nat.le_of_ble_eq_true rfl) d_Values_init_8 (fun H locs hP hD hS => ?_)
  have hP : va_P D cL [(h, .inr (5, [.ref q1, .null, .int 0])), (q1, .inl (cI, 40, .inl (fun _ => 0)))] H := hP
  have hD : va_D A [(h, .inr (5, [.ref q1, .null, .int 0])), (q1, .inl (cI, 40, .inl (fun _ => 0)))] := hD
  refine lv_aload_n hx hb d_Values_init_11 rfl (lv_at hl 0 rfl) ?_
  refine lv_iload_n hx hb d_Values_init_12 rfl (lv_at hl 1 rfl) ?_
  refine nw_i hx hb (hts _ k_44) hK 0 rfl hP hD hS hA (n := 40) (N' := 40) (by decide) (by decide) (by decide) (Nat.le_of_ble_eq_true rfl) (Nat.le_of_ble_eq_true rfl) d_Values_init_13 (fun q2 H hP hD hS => ?_)
  have hP : va_P D cL [(h, .inr (5, [.ref q1, .null, .int 0])), (q1, .inl (cI, 40, .inl (fun _ => 0))), (q2, .inl (cI, 40, .inl (fun _ => 0)))] H := hP
  have hD : va_D A [(h, .inr (5, [.ref q1, .null, .int 0])), (q1, .inl (cI, 40, .inl (fun _ => 0))), (q2, .inl (cI, 40, .inl (fun _ => 0)))] := hD
  refine W.widen (k := 2) (n := 80) (Nat.le_of_ble_eq_true rfl) (Nat.le_of_ble_eq_true rfl) ?_
  refine va_putF (D := D) (ci := 5) (v := .ref q2) (ty := .array .int) (C := "TaleMachine$Values") (T := F_Values) (N := 3) hx hb hts in_Values t_Values t_Values_ok n_Values hown hK hP hD hS 0 rfl rfl 1 (by decide) (hts _ k_49) (fun _ h9 => h9) rfl hin rfl (by decide +kernel) rfl rfl (Nat.le_of_ble_eq_true rfl) d_Values_init_15 (fun H locs hP hD hS => ?_)
  have hP : va_P D cL [(h, .inr (5, [.ref q1, .ref q2, .int 0])), (q1, .inl (cI, 40, .inl (fun _ => 0))), (q2, .inl (cI, 40, .inl (fun _ => 0)))] H := hP
  have hD : va_D A [(h, .inr (5, [.ref q1, .ref q2, .int 0])), (q1, .inl (cI, 40, .inl (fun _ => 0))), (q2, .inl (cI, 40, .inl (fun _ => 0)))] := hD
  exact end_v hx hb hr hlocks hS (u := (q1, q2)) (at_end (hP.sub (ws' := [(h, .inr (5, [.ref q1, .ref q2, .int 0]))]) [0] rfl) (hD.sub (ws' := [(h, .inr (5, [.ref q1, .ref q2, .int 0]))]) [0] (by decide) rfl)) (trivial) (Nat.le_of_ble_eq_true rfl) (Nat.le_of_ble_eq_true rfl) d_Values_init_18

set_option maxHeartbeats 4000000 in
set_option maxRecDepth 100000 in
theorem c_Values_init_50 (l : Launch) (D : va_G) (cI cZ cJ : ClassId) (h : Nat) (sz : Nat)  : Met l y_Values_init (.code y_Values_init prog_7_method_1_code 2 none :: AW) ({ frames := 1, cells := 2, slots := 100, locals := 14 }) (va_Pc [.ref h, .int 50] (pre_ D [(h, .inr (5, [.null, .null, .int 0]))] [(cI, .int), (cZ, .boolean), (cJ, .long)] sz)) (va_Qv (fun (u : Nat × Nat) => True) (fun u t => match u with | (vk, vi) => post_ D (va_A [(h, .inr (5, [.null, .null, .int 0]))] sz) [(h, .inr (5, [.ref vk, .ref vi, .int 0]))] t) (va_A [(h, .inr (5, [.null, .null, .int 0]))] sz)) 2 100 (va_A [(h, .inr (5, [.null, .null, .int 0]))] sz) := by
  refine Met.ofW (cc := prog_7_method_1_code) (maxL := 2) (ret := none) (by decide) rfl ?_
  intro p e s m args below meth c s₁ B hml hv
  obtain ⟨rfl, rfl, hP, hK, hD0, hT⟩ := hv
  have hx := B.exec
  have hb := B.bytes
  have hr := B.returns
  have hts0 := atoms_spec (ws := .code y_Values_init prog_7_method_1_code 2 none :: AW) B.pre
  have hts : ∀ w ∈ AW, w.before [.ref h, .int 50].toArray s = true := fun w h => hts0 w (List.mem_cons_of_mem _ h)
  have hown : s.vm.findClass "TaleMachine$Values" = some m.cls := findClass_of_methodNamed B.named
  have hlocks := B.notSynchronized
  have hin : meth.name = "<init>" := (name_of_methodNamed B.named B.method).1
  have hD := hD0.self (sz := s.heap.size)
  generalize hAe : va_A [(h, .inr (5, [.null, .null, .int 0]))] s.heap.size = A at hD ⊢
  have hA : ∀ q : Nat, s.heap.size ≤ q → A q := fun q h => by rw [← hAe]; exact Or.inr h
  have hS : va_S A s.heap s.heap [] := va_S.rf
  have hl := lv_entry ([.ref h, .int 50]) (n := 2) (Nat.le_of_ble_eq_true rfl)
  rw [lg_entry_eq]
  generalize (lg_sl ([.ref h, .int 50]) ++ List.replicate (2 - (lg_sl ([.ref h, .int 50])).length) Slot.unset).toArray = ls at hl ⊢
  have hl : lv_has ls 2 [(0, .ref h), (1, .int 50)] := hl
  refine lv_aload_n hx hb d_Values_init_0 rfl (lv_at hl 0 rfl) ?_
  refine W.objInit hx hb hown (hts _ k_47) (hts _ k_42) (hts _ k_43) rfl (by rw [hml]; exact hl.1) rfl d_Values_init_1 (Nat.le_of_ble_eq_true rfl) (Nat.le_of_ble_eq_true rfl) ?_
  refine W.eq (g2 := F0 m 4 ls []) rfl ?_
  refine lv_aload_n hx hb d_Values_init_4 rfl (lv_at hl 0 rfl) ?_
  refine lv_iload_n hx hb d_Values_init_5 rfl (lv_at hl 1 rfl) ?_
  refine nw_i hx hb (hts _ k_44) hK 0 rfl hP hD hS hA (n := 50) (N' := 50) (by decide) (by decide) (by decide) (Nat.le_of_ble_eq_true rfl) (Nat.le_of_ble_eq_true rfl) d_Values_init_6 (fun q1 H hP hD hS => ?_)
  have hP : va_P D cL [(h, .inr (5, [.null, .null, .int 0])), (q1, .inl (cI, 50, .inl (fun _ => 0)))] H := hP
  have hD : va_D A [(h, .inr (5, [.null, .null, .int 0])), (q1, .inl (cI, 50, .inl (fun _ => 0)))] := hD
  refine W.widen (k := 1) (n := 50) (Nat.le_of_ble_eq_true rfl) (Nat.le_of_ble_eq_true rfl) ?_
  refine va_putF (D := D) (ci := 5) (v := .ref q1) (ty := .array .int) (C := "TaleMachine$Values") (T := F_Values) (N := 3) hx hb hts in_Values t_Values t_Values_ok n_Values hown hK hP hD hS 0 rfl rfl 0 (by decide) (hts _ k_48) (fun _ h9 => h9) rfl hin rfl (by decide +kernel) rfl rfl (Nat.le_of_ble_eq_true rfl) d_Values_init_8 (fun H locs hP hD hS => ?_)
  have hP : va_P D cL [(h, .inr (5, [.ref q1, .null, .int 0])), (q1, .inl (cI, 50, .inl (fun _ => 0)))] H := hP
  have hD : va_D A [(h, .inr (5, [.ref q1, .null, .int 0])), (q1, .inl (cI, 50, .inl (fun _ => 0)))] := hD
  refine lv_aload_n hx hb d_Values_init_11 rfl (lv_at hl 0 rfl) ?_
  refine lv_iload_n hx hb d_Values_init_12 rfl (lv_at hl 1 rfl) ?_
  refine nw_i hx hb (hts _ k_44) hK 0 rfl hP hD hS hA (n := 50) (N' := 50) (by decide) (by decide) (by decide) (Nat.le_of_ble_eq_true rfl) (Nat.le_of_ble_eq_true rfl) d_Values_init_13 (fun q2 H hP hD hS => ?_)
  have hP : va_P D cL [(h, .inr (5, [.ref q1, .null, .int 0])), (q1, .inl (cI, 50, .inl (fun _ => 0))), (q2, .inl (cI, 50, .inl (fun _ => 0)))] H := hP
  have hD : va_D A [(h, .inr (5, [.ref q1, .null, .int 0])), (q1, .inl (cI, 50, .inl (fun _ => 0))), (q2, .inl (cI, 50, .inl (fun _ => 0)))] := hD
  refine W.widen (k := 2) (n := 100) (Nat.le_of_ble_eq_true rfl) (Nat.le_of_ble_eq_true rfl) ?_
  refine va_putF (D := D) (ci := 5) (v := .ref q2) (ty := .array .int) (C := "TaleMachine$Values") (T := F_Values) (N := 3) hx hb hts in_Values t_Values t_Values_ok n_Values hown hK hP hD hS 0 rfl rfl 1 (by decide) (hts _ k_49) (fun _ h9 => h9) rfl hin rfl (by decide +kernel) rfl rfl (Nat.le_of_ble_eq_true rfl) d_Values_init_15 (fun H locs hP hD hS => ?_)
  have hP : va_P D cL [(h, .inr (5, [.ref q1, .ref q2, .int 0])), (q1, .inl (cI, 50, .inl (fun _ => 0))), (q2, .inl (cI, 50, .inl (fun _ => 0)))] H := hP
  have hD : va_D A [(h, .inr (5, [.ref q1, .ref q2, .int 0])), (q1, .inl (cI, 50, .inl (fun _ => 0))), (q2, .inl (cI, 50, .inl (fun _ => 0)))] := hD
  exact end_v hx hb hr hlocks hS (u := (q1, q2)) (at_end (hP.sub (ws' := [(h, .inr (5, [.ref q1, .ref q2, .int 0]))]) [0] rfl) (hD.sub (ws' := [(h, .inr (5, [.ref q1, .ref q2, .int 0]))]) [0] (by decide) rfl)) (trivial) (Nat.le_of_ble_eq_true rfl) (Nat.le_of_ble_eq_true rfl) d_Values_init_18

set_option maxHeartbeats 4000000 in
set_option maxRecDepth 100000 in
theorem c_Values_init_1 (l : Launch) (D : va_G) (cI cZ cJ : ClassId) (h : Nat) (sz : Nat)  : Met l y_Values_init (.code y_Values_init prog_7_method_1_code 2 none :: AW) ({ frames := 1, cells := 2, slots := 2, locals := 14 }) (va_Pc [.ref h, .int 1] (pre_ D [(h, .inr (5, [.null, .null, .int 0]))] [(cI, .int), (cZ, .boolean), (cJ, .long)] sz)) (va_Qv (fun (u : Nat × Nat) => True) (fun u t => match u with | (vk, vi) => post_ D (va_A [(h, .inr (5, [.null, .null, .int 0]))] sz) [(h, .inr (5, [.ref vk, .ref vi, .int 0]))] t) (va_A [(h, .inr (5, [.null, .null, .int 0]))] sz)) 2 2 (va_A [(h, .inr (5, [.null, .null, .int 0]))] sz) := by
  refine Met.ofW (cc := prog_7_method_1_code) (maxL := 2) (ret := none) (by decide) rfl ?_
  intro p e s m args below meth c s₁ B hml hv
  obtain ⟨rfl, rfl, hP, hK, hD0, hT⟩ := hv
  have hx := B.exec
  have hb := B.bytes
  have hr := B.returns
  have hts0 := atoms_spec (ws := .code y_Values_init prog_7_method_1_code 2 none :: AW) B.pre
  have hts : ∀ w ∈ AW, w.before [.ref h, .int 1].toArray s = true := fun w h => hts0 w (List.mem_cons_of_mem _ h)
  have hown : s.vm.findClass "TaleMachine$Values" = some m.cls := findClass_of_methodNamed B.named
  have hlocks := B.notSynchronized
  have hin : meth.name = "<init>" := (name_of_methodNamed B.named B.method).1
  have hD := hD0.self (sz := s.heap.size)
  generalize hAe : va_A [(h, .inr (5, [.null, .null, .int 0]))] s.heap.size = A at hD ⊢
  have hA : ∀ q : Nat, s.heap.size ≤ q → A q := fun q h => by rw [← hAe]; exact Or.inr h
  have hS : va_S A s.heap s.heap [] := va_S.rf
  have hl := lv_entry ([.ref h, .int 1]) (n := 2) (Nat.le_of_ble_eq_true rfl)
  rw [lg_entry_eq]
  generalize (lg_sl ([.ref h, .int 1]) ++ List.replicate (2 - (lg_sl ([.ref h, .int 1])).length) Slot.unset).toArray = ls at hl ⊢
  have hl : lv_has ls 2 [(0, .ref h), (1, .int 1)] := hl
  refine lv_aload_n hx hb d_Values_init_0 rfl (lv_at hl 0 rfl) ?_
  refine W.objInit hx hb hown (hts _ k_47) (hts _ k_42) (hts _ k_43) rfl (by rw [hml]; exact hl.1) rfl d_Values_init_1 (Nat.le_of_ble_eq_true rfl) (Nat.le_of_ble_eq_true rfl) ?_
  refine W.eq (g2 := F0 m 4 ls []) rfl ?_
  refine lv_aload_n hx hb d_Values_init_4 rfl (lv_at hl 0 rfl) ?_
  refine lv_iload_n hx hb d_Values_init_5 rfl (lv_at hl 1 rfl) ?_
  refine nw_i hx hb (hts _ k_44) hK 0 rfl hP hD hS hA (n := 1) (N' := 1) (by decide) (by decide) (by decide) (Nat.le_of_ble_eq_true rfl) (Nat.le_of_ble_eq_true rfl) d_Values_init_6 (fun q1 H hP hD hS => ?_)
  have hP : va_P D cL [(h, .inr (5, [.null, .null, .int 0])), (q1, .inl (cI, 1, .inl (fun _ => 0)))] H := hP
  have hD : va_D A [(h, .inr (5, [.null, .null, .int 0])), (q1, .inl (cI, 1, .inl (fun _ => 0)))] := hD
  refine W.widen (k := 1) (n := 1) (Nat.le_of_ble_eq_true rfl) (Nat.le_of_ble_eq_true rfl) ?_
  refine va_putF (D := D) (ci := 5) (v := .ref q1) (ty := .array .int) (C := "TaleMachine$Values") (T := F_Values) (N := 3) hx hb hts in_Values t_Values t_Values_ok n_Values hown hK hP hD hS 0 rfl rfl 0 (by decide) (hts _ k_48) (fun _ h9 => h9) rfl hin rfl (by decide +kernel) rfl rfl (Nat.le_of_ble_eq_true rfl) d_Values_init_8 (fun H locs hP hD hS => ?_)
  have hP : va_P D cL [(h, .inr (5, [.ref q1, .null, .int 0])), (q1, .inl (cI, 1, .inl (fun _ => 0)))] H := hP
  have hD : va_D A [(h, .inr (5, [.ref q1, .null, .int 0])), (q1, .inl (cI, 1, .inl (fun _ => 0)))] := hD
  refine lv_aload_n hx hb d_Values_init_11 rfl (lv_at hl 0 rfl) ?_
  refine lv_iload_n hx hb d_Values_init_12 rfl (lv_at hl 1 rfl) ?_
  refine nw_i hx hb (hts _ k_44) hK 0 rfl hP hD hS hA (n := 1) (N' := 1) (by decide) (by decide) (by decide) (Nat.le_of_ble_eq_true rfl) (Nat.le_of_ble_eq_true rfl) d_Values_init_13 (fun q2 H hP hD hS => ?_)
  have hP : va_P D cL [(h, .inr (5, [.ref q1, .null, .int 0])), (q1, .inl (cI, 1, .inl (fun _ => 0))), (q2, .inl (cI, 1, .inl (fun _ => 0)))] H := hP
  have hD : va_D A [(h, .inr (5, [.ref q1, .null, .int 0])), (q1, .inl (cI, 1, .inl (fun _ => 0))), (q2, .inl (cI, 1, .inl (fun _ => 0)))] := hD
  refine W.widen (k := 2) (n := 2) (Nat.le_of_ble_eq_true rfl) (Nat.le_of_ble_eq_true rfl) ?_
  refine va_putF (D := D) (ci := 5) (v := .ref q2) (ty := .array .int) (C := "TaleMachine$Values") (T := F_Values) (N := 3) hx hb hts in_Values t_Values t_Values_ok n_Values hown hK hP hD hS 0 rfl rfl 1 (by decide) (hts _ k_49) (fun _ h9 => h9) rfl hin rfl (by decide +kernel) rfl rfl (Nat.le_of_ble_eq_true rfl) d_Values_init_15 (fun H locs hP hD hS => ?_)
  have hP : va_P D cL [(h, .inr (5, [.ref q1, .ref q2, .int 0])), (q1, .inl (cI, 1, .inl (fun _ => 0))), (q2, .inl (cI, 1, .inl (fun _ => 0)))] H := hP
  have hD : va_D A [(h, .inr (5, [.ref q1, .ref q2, .int 0])), (q1, .inl (cI, 1, .inl (fun _ => 0))), (q2, .inl (cI, 1, .inl (fun _ => 0)))] := hD
  exact end_v hx hb hr hlocks hS (u := (q1, q2)) (at_end (hP.sub (ws' := [(h, .inr (5, [.ref q1, .ref q2, .int 0]))]) [0] rfl) (hD.sub (ws' := [(h, .inr (5, [.ref q1, .ref q2, .int 0]))]) [0] (by decide) rfl)) (trivial) (Nat.le_of_ble_eq_true rfl) (Nat.le_of_ble_eq_true rfl) d_Values_init_18

set_option maxHeartbeats 4000000 in
set_option maxRecDepth 100000 in
theorem c_State_init (l : Launch) (D : va_G) (cI cZ cJ : ClassId) (h : Nat) (sz : Nat)  : Met l y_State_init (.code y_State_init prog_5_method_1_code 1 none :: AW) ({ frames := 1, cells := 3, slots := 528, locals := 23 }) (va_Pc [.ref h] (pre_ D [(h, .inr (3, [.null, .null, .null]))] [(cI, .int), (cZ, .boolean), (cJ, .long)] sz)) (va_Qv (fun (u : Nat × Nat × Nat) => True) (fun u t => match u with | (kd, it, pa) => post_ D (va_A [(h, .inr (3, [.null, .null, .null]))] sz) [(h, .inr (3, [.ref kd, .ref it, .ref pa])), (pa, .inl (cI, 16, .inl (fun _ => -1)))] t) (va_A [(h, .inr (3, [.null, .null, .null]))] sz)) 3 528 (va_A [(h, .inr (3, [.null, .null, .null]))] sz) := by
  refine Met.ofW (cc := prog_5_method_1_code) (maxL := 1) (ret := none) (by decide) rfl ?_
  intro p e s m args below meth c s₁ B hml hv
  obtain ⟨rfl, rfl, hP, hK, hD0, hT⟩ := hv
  have hx := B.exec
  have hb := B.bytes
  have hr := B.returns
  have hts0 := atoms_spec (ws := .code y_State_init prog_5_method_1_code 1 none :: AW) B.pre
  have hts : ∀ w ∈ AW, w.before [.ref h].toArray s = true := fun w h => hts0 w (List.mem_cons_of_mem _ h)
  have hown : s.vm.findClass "TaleMachine$State" = some m.cls := findClass_of_methodNamed B.named
  have hlocks := B.notSynchronized
  have hin : meth.name = "<init>" := (name_of_methodNamed B.named B.method).1
  have hD := hD0.self (sz := s.heap.size)
  generalize hAe : va_A [(h, .inr (3, [.null, .null, .null]))] s.heap.size = A at hD ⊢
  have hA : ∀ q : Nat, s.heap.size ≤ q → A q := fun q h => by rw [← hAe]; exact Or.inr h
  have hS : va_S A s.heap s.heap [] := va_S.rf
  have hl := lv_entry ([.ref h]) (n := 1) (Nat.le_of_ble_eq_true rfl)
  rw [lg_entry_eq]
  generalize (lg_sl ([.ref h]) ++ List.replicate (1 - (lg_sl ([.ref h])).length) Slot.unset).toArray = ls at hl ⊢
  have hl : lv_has ls 1 [(0, .ref h)] := hl
  refine lv_aload_n hx hb d_State_init_0 rfl (lv_at hl 0 rfl) ?_
  refine W.objInit hx hb hown (hts _ k_50) (hts _ k_42) (hts _ k_43) rfl (by rw [hml]; exact hl.1) rfl d_State_init_1 (Nat.le_of_ble_eq_true rfl) (Nat.le_of_ble_eq_true rfl) ?_
  refine W.eq (g2 := F0 m 4 ls []) rfl ?_
  refine lv_aload_n hx hb d_State_init_4 rfl (lv_at hl 0 rfl) ?_
  refine lv_sipush (v := 256) hx hb d_State_init_5 (by decide) ?_
  refine nw_i hx hb (hts _ k_44) hK 0 rfl hP hD hS hA (n := 256) (N' := 256) (by decide) (by decide) (by decide) (Nat.le_of_ble_eq_true rfl) (Nat.le_of_ble_eq_true rfl) d_State_init_8 (fun q1 H hP hD hS => ?_)
  have hP : va_P D cL [(h, .inr (3, [.null, .null, .null])), (q1, .inl (cI, 256, .inl (fun _ => 0)))] H := hP
  have hD : va_D A [(h, .inr (3, [.null, .null, .null])), (q1, .inl (cI, 256, .inl (fun _ => 0)))] := hD
  refine W.widen (k := 1) (n := 256) (Nat.le_of_ble_eq_true rfl) (Nat.le_of_ble_eq_true rfl) ?_
  refine va_putF (D := D) (ci := 3) (v := .ref q1) (ty := .array .int) (C := "TaleMachine$State") (T := F_State) (N := 3) hx hb hts in_State t_State t_State_ok n_State hown hK hP hD hS 0 rfl rfl 0 (by decide) (hts _ k_51) (fun _ h9 => h9) rfl hin rfl (by decide +kernel) rfl rfl (Nat.le_of_ble_eq_true rfl) d_State_init_10 (fun H locs hP hD hS => ?_)
  have hP : va_P D cL [(h, .inr (3, [.ref q1, .null, .null])), (q1, .inl (cI, 256, .inl (fun _ => 0)))] H := hP
  have hD : va_D A [(h, .inr (3, [.ref q1, .null, .null])), (q1, .inl (cI, 256, .inl (fun _ => 0)))] := hD
  refine lv_aload_n hx hb d_State_init_13 rfl (lv_at hl 0 rfl) ?_
  refine lv_sipush (v := 256) hx hb d_State_init_14 (by decide) ?_
  refine nw_i hx hb (hts _ k_44) hK 0 rfl hP hD hS hA (n := 256) (N' := 256) (by decide) (by decide) (by decide) (Nat.le_of_ble_eq_true rfl) (Nat.le_of_ble_eq_true rfl) d_State_init_17 (fun q2 H hP hD hS => ?_)
  have hP : va_P D cL [(h, .inr (3, [.ref q1, .null, .null])), (q1, .inl (cI, 256, .inl (fun _ => 0))), (q2, .inl (cI, 256, .inl (fun _ => 0)))] H := hP
  have hD : va_D A [(h, .inr (3, [.ref q1, .null, .null])), (q1, .inl (cI, 256, .inl (fun _ => 0))), (q2, .inl (cI, 256, .inl (fun _ => 0)))] := hD
  refine W.widen (k := 2) (n := 512) (Nat.le_of_ble_eq_true rfl) (Nat.le_of_ble_eq_true rfl) ?_
  refine va_putF (D := D) (ci := 3) (v := .ref q2) (ty := .array .int) (C := "TaleMachine$State") (T := F_State) (N := 3) hx hb hts in_State t_State t_State_ok n_State hown hK hP hD hS 0 rfl rfl 1 (by decide) (hts _ k_52) (fun _ h9 => h9) rfl hin rfl (by decide +kernel) rfl rfl (Nat.le_of_ble_eq_true rfl) d_State_init_19 (fun H locs hP hD hS => ?_)
  have hP : va_P D cL [(h, .inr (3, [.ref q1, .ref q2, .null])), (q1, .inl (cI, 256, .inl (fun _ => 0))), (q2, .inl (cI, 256, .inl (fun _ => 0)))] H := hP
  have hD : va_D A [(h, .inr (3, [.ref q1, .ref q2, .null])), (q1, .inl (cI, 256, .inl (fun _ => 0))), (q2, .inl (cI, 256, .inl (fun _ => 0)))] := hD
  refine lv_aload_n hx hb d_State_init_22 rfl (lv_at hl 0 rfl) ?_
  refine lv_bipush (v := 16) hx hb d_State_init_23 (by decide) ?_
  refine nw_i hx hb (hts _ k_44) hK 0 rfl hP hD hS hA (n := 16) (N' := 16) (by decide) (by decide) (by decide) (Nat.le_of_ble_eq_true rfl) (Nat.le_of_ble_eq_true rfl) d_State_init_25 (fun q3 H hP hD hS => ?_)
  have hP : va_P D cL [(h, .inr (3, [.ref q1, .ref q2, .null])), (q1, .inl (cI, 256, .inl (fun _ => 0))), (q2, .inl (cI, 256, .inl (fun _ => 0))), (q3, .inl (cI, 16, .inl (fun _ => 0)))] H := hP
  have hD : va_D A [(h, .inr (3, [.ref q1, .ref q2, .null])), (q1, .inl (cI, 256, .inl (fun _ => 0))), (q2, .inl (cI, 256, .inl (fun _ => 0))), (q3, .inl (cI, 16, .inl (fun _ => 0)))] := hD
  refine W.widen (k := 3) (n := 528) (Nat.le_of_ble_eq_true rfl) (Nat.le_of_ble_eq_true rfl) ?_
  refine va_putF (D := D) (ci := 3) (v := .ref q3) (ty := .array .int) (C := "TaleMachine$State") (T := F_State) (N := 3) hx hb hts in_State t_State t_State_ok n_State hown hK hP hD hS 0 rfl rfl 2 (by decide) (hts _ k_53) (fun _ h9 => h9) rfl hin rfl (by decide +kernel) rfl rfl (Nat.le_of_ble_eq_true rfl) d_State_init_27 (fun H locs hP hD hS => ?_)
  have hP : va_P D cL [(h, .inr (3, [.ref q1, .ref q2, .ref q3])), (q1, .inl (cI, 256, .inl (fun _ => 0))), (q2, .inl (cI, 256, .inl (fun _ => 0))), (q3, .inl (cI, 16, .inl (fun _ => 0)))] H := hP
  have hD : va_D A [(h, .inr (3, [.ref q1, .ref q2, .ref q3])), (q1, .inl (cI, 256, .inl (fun _ => 0))), (q2, .inl (cI, 256, .inl (fun _ => 0))), (q3, .inl (cI, 16, .inl (fun _ => 0)))] := hD
  refine lv_aload_n hx hb d_State_init_30 rfl (lv_at hl 0 rfl) ?_
  refine va_get (D := D) (ci := 3) (v := .ref q1) (C := "TaleMachine$State") (T := F_State) (N := 3) hx hb hts in_State hown hK hP 0 rfl rfl 0 (by decide) (hts _ k_51) (fun _ h9 => h9) rfl d_State_init_31 ?_
  refine lv_iconst (v := (-1)) hx hb d_State_init_34 (by decide) ?_
  refine mv_v (va_runS (As := [.ref q1, .int (-1)]) (rest := []) ⟨hx, hb, hml, hown, hts⟩ (c_fill l D cI cZ cJ q1 256 (fun _ => 0) (-1) _ (by first | assumption | decide | omega)) (va_cwS 2 hts (gInS k_55 k_56 k_57 k_54) rfl rfl rfl (by decide +kernel) ⟨Nat.le_of_ble_eq_true rfl, Nat.le_of_ble_eq_true rfl⟩) (pre_S (hP.sub [1] rfl) (hK.sub [0, 1, 2] rfl) (hD.sub [1] (by decide) rfl) hT) rfl rfl hl.1 rfl (lv_room (Nat.le_of_ble_eq_true rfl)) d_State_init_35 ⟨Nat.le_of_ble_eq_true rfl, Nat.le_of_ble_eq_true rfl⟩) hP hD hS hA [1] [0, 2, 3] rfl rfl (by decide) (by decide) (wr := [(h, .inr (3, [.ref q1, .ref q2, .ref q3])), (q2, .inl (cI, 256, .inl (fun _ => 0))), (q3, .inl (cI, 16, .inl (fun _ => 0)))]) (wn := fun _ => [(q1, .inl (cI, 256, .inl (fun _ => -1)))]) (fun _ _ h9 => h9) (fun _ H locs hp5 hP hD hS => ?_)
  have hP : va_P D cL [(h, .inr (3, [.ref q1, .ref q2, .ref q3])), (q2, .inl (cI, 256, .inl (fun _ => 0))), (q3, .inl (cI, 16, .inl (fun _ => 0))), (q1, .inl (cI, 256, .inl (fun _ => -1)))] H := hP
  have hD : va_D A [(h, .inr (3, [.ref q1, .ref q2, .ref q3])), (q2, .inl (cI, 256, .inl (fun _ => 0))), (q3, .inl (cI, 16, .inl (fun _ => 0))), (q1, .inl (cI, 256, .inl (fun _ => -1)))] := hD
  refine lv_aload_n hx hb d_State_init_38 rfl (lv_at hl 0 rfl) ?_
  refine va_get (D := D) (ci := 3) (v := .ref q3) (C := "TaleMachine$State") (T := F_State) (N := 3) hx hb hts in_State hown hK hP 0 rfl rfl 2 (by decide) (hts _ k_53) (fun _ h9 => h9) rfl d_State_init_39 ?_
  refine lv_iconst (v := (-1)) hx hb d_State_init_42 (by decide) ?_
  refine mv_v (va_runS (As := [.ref q3, .int (-1)]) (rest := []) ⟨hx, hb, hml, hown, hts⟩ (c_fill l D cI cZ cJ q3 16 (fun _ => 0) (-1) _ (by first | assumption | decide | omega)) (va_cwS 2 hts (gInS k_55 k_56 k_57 k_54) rfl rfl rfl (by decide +kernel) ⟨Nat.le_of_ble_eq_true rfl, Nat.le_of_ble_eq_true rfl⟩) (pre_S (hP.sub [2] rfl) (hK.sub [0, 1, 2] rfl) (hD.sub [2] (by decide) rfl) hT) rfl rfl hl.1 rfl (lv_room (Nat.le_of_ble_eq_true rfl)) d_State_init_43 ⟨Nat.le_of_ble_eq_true rfl, Nat.le_of_ble_eq_true rfl⟩) hP hD hS hA [2] [0, 1, 3] rfl rfl (by decide) (by decide) (wr := [(h, .inr (3, [.ref q1, .ref q2, .ref q3])), (q2, .inl (cI, 256, .inl (fun _ => 0))), (q1, .inl (cI, 256, .inl (fun _ => -1)))]) (wn := fun _ => [(q3, .inl (cI, 16, .inl (fun _ => -1)))]) (fun _ _ h9 => h9) (fun _ H locs hp7 hP hD hS => ?_)
  have hP : va_P D cL [(h, .inr (3, [.ref q1, .ref q2, .ref q3])), (q2, .inl (cI, 256, .inl (fun _ => 0))), (q1, .inl (cI, 256, .inl (fun _ => -1))), (q3, .inl (cI, 16, .inl (fun _ => -1)))] H := hP
  have hD : va_D A [(h, .inr (3, [.ref q1, .ref q2, .ref q3])), (q2, .inl (cI, 256, .inl (fun _ => 0))), (q1, .inl (cI, 256, .inl (fun _ => -1))), (q3, .inl (cI, 16, .inl (fun _ => -1)))] := hD
  exact end_v hx hb hr hlocks hS (u := (q1, q2, q3)) (at_end (hP.sub (ws' := [(h, .inr (3, [.ref q1, .ref q2, .ref q3])), (q3, .inl (cI, 16, .inl (fun _ => -1)))]) [0, 3] rfl) (hD.sub (ws' := [(h, .inr (3, [.ref q1, .ref q2, .ref q3])), (q3, .inl (cI, 16, .inl (fun _ => -1)))]) [0, 3] (by decide) rfl)) (trivial) (Nat.le_of_ble_eq_true rfl) (Nat.le_of_ble_eq_true rfl) d_State_init_46

set_option maxHeartbeats 4000000 in
set_option maxRecDepth 100000 in
theorem c_World_init (l : Launch) (D : va_G) (cI cZ cJ : ClassId) (h : Nat) (sz : Nat)  : Met l y_World_init (.code y_World_init prog_8_method_1_code 1 none :: AW) ({ frames := 2, cells := 8, slots := 867, locals := 43 }) (va_Pc [.ref h] (pre_ D [(h, .inr (6, [.null, .int 0, .null, .null, .null, .int 0, .null, .int 0, .int 0]))] [(cI, .int), (cZ, .boolean), (cJ, .long)] sz)) (va_Qv (fun (u : Nat × Nat × Nat × Nat × Nat × Nat × Nat × Nat) => True) (fun u t => match u with | (st, fl, fn, li, rc, kd, it, pa) => post_ D (va_A [(h, .inr (6, [.null, .int 0, .null, .null, .null, .int 0, .null, .int 0, .int 0]))] sz) [(h, .inr (6, [.ref st, .int 0, .ref fl, .ref fn, .ref li, .int 0, .ref rc, .int 0, .int 0])), (st, .inr (3, [.ref kd, .ref it, .ref pa])), (pa, .inl (cI, 16, .inl (fun _ => -1))), (fl, .inl (cI, 256, .inl (fun _ => 0))), (fn, .inl (cI, 16, .inl (fun _ => 0)))] t) (va_A [(h, .inr (6, [.null, .int 0, .null, .null, .null, .int 0, .null, .int 0, .int 0]))] sz)) 8 867 (va_A [(h, .inr (6, [.null, .int 0, .null, .null, .null, .int 0, .null, .int 0, .int 0]))] sz) := by
  refine Met.ofW (cc := prog_8_method_1_code) (maxL := 1) (ret := none) (by decide) rfl ?_
  intro p e s m args below meth c s₁ B hml hv
  obtain ⟨rfl, rfl, hP, hK, hD0, hT⟩ := hv
  have hx := B.exec
  have hb := B.bytes
  have hr := B.returns
  have hts0 := atoms_spec (ws := .code y_World_init prog_8_method_1_code 1 none :: AW) B.pre
  have hts : ∀ w ∈ AW, w.before [.ref h].toArray s = true := fun w h => hts0 w (List.mem_cons_of_mem _ h)
  have hown : s.vm.findClass "TaleMachine$World" = some m.cls := findClass_of_methodNamed B.named
  have hlocks := B.notSynchronized
  have hin : meth.name = "<init>" := (name_of_methodNamed B.named B.method).1
  have hD := hD0.self (sz := s.heap.size)
  generalize hAe : va_A [(h, .inr (6, [.null, .int 0, .null, .null, .null, .int 0, .null, .int 0, .int 0]))] s.heap.size = A at hD ⊢
  have hA : ∀ q : Nat, s.heap.size ≤ q → A q := fun q h => by rw [← hAe]; exact Or.inr h
  have hS : va_S A s.heap s.heap [] := va_S.rf
  have hl := lv_entry ([.ref h]) (n := 1) (Nat.le_of_ble_eq_true rfl)
  rw [lg_entry_eq]
  generalize (lg_sl ([.ref h]) ++ List.replicate (1 - (lg_sl ([.ref h])).length) Slot.unset).toArray = ls at hl ⊢
  have hl : lv_has ls 1 [(0, .ref h)] := hl
  refine lv_aload_n hx hb d_World_init_0 rfl (lv_at hl 0 rfl) ?_
  refine W.objInit hx hb hown (hts _ k_58) (hts _ k_42) (hts _ k_43) rfl (by rw [hml]; exact hl.1) rfl d_World_init_1 (Nat.le_of_ble_eq_true rfl) (Nat.le_of_ble_eq_true rfl) ?_
  refine W.eq (g2 := F0 m 4 ls []) rfl ?_
  refine lv_aload_n hx hb d_World_init_4 rfl (lv_at hl 0 rfl) ?_
  refine va_new (ci := 3) (fs := [.null, .null, .null]) (C := "TaleMachine$State") (T := F_State) (N := 3) hx hb hts in_State t_State t_State_ok hown (hts _ k_59) (hts _ k_60) (hts _ k_61) hK hP hD hS hA rfl dv_State (Nat.le_of_ble_eq_true rfl) (Nat.le_of_ble_eq_true rfl) d_World_init_5 (fun q1 H hP hD hS => ?_)
  have hP : va_P D cL [(h, .inr (6, [.null, .int 0, .null, .null, .null, .int 0, .null, .int 0, .int 0])), (q1, .inr (3, [.null, .null, .null]))] H := hP
  have hD : va_D A [(h, .inr (6, [.null, .int 0, .null, .null, .null, .int 0, .null, .int 0, .int 0])), (q1, .inr (3, [.null, .null, .null]))] := hD
  refine W.widen (k := 1) (n := 3) (Nat.le_of_ble_eq_true rfl) (Nat.le_of_ble_eq_true rfl) ?_
  refine lv_dup hx hb d_World_init_8 rfl ?_
  refine mv_v (va_runI (As := []) (rest := [.ref q1, .ref h]) ⟨hx, hb, hml, hown, hts⟩ (c_State_init l D cI cZ cJ q1 _ ) (cwI 0 hts (gIn k_62) rfl rfl rfl (hts _ k_61) (hts _ k_63) (hts _ k_64) rfl (by decide +kernel) ⟨Nat.le_of_ble_eq_true rfl, Nat.le_of_ble_eq_true rfl⟩) (pre_S (hP.sub [1] rfl) (hK.sub [0, 1, 2] rfl) (hD.sub [1] (by decide) rfl) hT) rfl rfl hl.1 rfl (lv_room (Nat.le_of_ble_eq_true rfl)) d_World_init_9 ⟨Nat.le_of_ble_eq_true rfl, Nat.le_of_ble_eq_true rfl⟩) hP hD hS hA [1] [0] rfl rfl (by decide) (by decide) (wr := [(h, .inr (6, [.null, .int 0, .null, .null, .null, .int 0, .null, .int 0, .int 0]))]) (wn := fun u => match u with | (kd, it, pa) => [(q1, .inr (3, [.ref kd, .ref it, .ref pa])), (pa, .inl (cI, 16, .inl (fun _ => -1)))]) (fun _ _ h9 => h9) (fun u H locs hp6 hP hD hS => ?_)
  obtain ⟨a2, a3, a4⟩ := u
  have hP : va_P D cL [(h, .inr (6, [.null, .int 0, .null, .null, .null, .int 0, .null, .int 0, .int 0])), (q1, .inr (3, [.ref a2, .ref a3, .ref a4])), (a4, .inl (cI, 16, .inl (fun _ => -1)))] H := hP
  have hD : va_D A [(h, .inr (6, [.null, .int 0, .null, .null, .null, .int 0, .null, .int 0, .int 0])), (q1, .inr (3, [.ref a2, .ref a3, .ref a4])), (a4, .inl (cI, 16, .inl (fun _ => -1)))] := hD
  refine W.widen (k := 4) (n := 531) (Nat.le_of_ble_eq_true rfl) (Nat.le_of_ble_eq_true rfl) ?_
  refine va_putF (D := D) (ci := 6) (v := .ref q1) (ty := .object "TaleMachine$State") (C := "TaleMachine$World") (T := F_World) (N := 9) hx hb hts in_World t_World t_World_ok n_World hown hK hP hD hS 0 rfl rfl 0 (by decide) (hts _ k_65) (fun _ h9 => h9) rfl hin rfl (by decide +kernel) rfl rfl (Nat.le_of_ble_eq_true rfl) d_World_init_12 (fun H locs hP hD hS => ?_)
  have hP : va_P D cL [(h, .inr (6, [.ref q1, .int 0, .null, .null, .null, .int 0, .null, .int 0, .int 0])), (q1, .inr (3, [.ref a2, .ref a3, .ref a4])), (a4, .inl (cI, 16, .inl (fun _ => -1)))] H := hP
  have hD : va_D A [(h, .inr (6, [.ref q1, .int 0, .null, .null, .null, .int 0, .null, .int 0, .int 0])), (q1, .inr (3, [.ref a2, .ref a3, .ref a4])), (a4, .inl (cI, 16, .inl (fun _ => -1)))] := hD
  refine lv_aload_n hx hb d_World_init_15 rfl (lv_at hl 0 rfl) ?_
  refine lv_sipush (v := 256) hx hb d_World_init_16 (by decide) ?_
  refine nw_i hx hb (hts _ k_44) hK 0 rfl hP hD hS hA (n := 256) (N' := 256) (by decide) (by decide) (by decide) (Nat.le_of_ble_eq_true rfl) (Nat.le_of_ble_eq_true rfl) d_World_init_19 (fun q7 H hP hD hS => ?_)
  have hP : va_P D cL [(h, .inr (6, [.ref q1, .int 0, .null, .null, .null, .int 0, .null, .int 0, .int 0])), (q1, .inr (3, [.ref a2, .ref a3, .ref a4])), (a4, .inl (cI, 16, .inl (fun _ => -1))), (q7, .inl (cI, 256, .inl (fun _ => 0)))] H := hP
  have hD : va_D A [(h, .inr (6, [.ref q1, .int 0, .null, .null, .null, .int 0, .null, .int 0, .int 0])), (q1, .inr (3, [.ref a2, .ref a3, .ref a4])), (a4, .inl (cI, 16, .inl (fun _ => -1))), (q7, .inl (cI, 256, .inl (fun _ => 0)))] := hD
  refine W.widen (k := 5) (n := 787) (Nat.le_of_ble_eq_true rfl) (Nat.le_of_ble_eq_true rfl) ?_
  refine va_putF (D := D) (ci := 6) (v := .ref q7) (ty := .array .int) (C := "TaleMachine$World") (T := F_World) (N := 9) hx hb hts in_World t_World t_World_ok n_World hown hK hP hD hS 0 rfl rfl 2 (by decide) (hts _ k_66) (fun _ h9 => h9) rfl hin rfl (by decide +kernel) rfl rfl (Nat.le_of_ble_eq_true rfl) d_World_init_21 (fun H locs hP hD hS => ?_)
  have hP : va_P D cL [(h, .inr (6, [.ref q1, .int 0, .ref q7, .null, .null, .int 0, .null, .int 0, .int 0])), (q1, .inr (3, [.ref a2, .ref a3, .ref a4])), (a4, .inl (cI, 16, .inl (fun _ => -1))), (q7, .inl (cI, 256, .inl (fun _ => 0)))] H := hP
  have hD : va_D A [(h, .inr (6, [.ref q1, .int 0, .ref q7, .null, .null, .int 0, .null, .int 0, .int 0])), (q1, .inr (3, [.ref a2, .ref a3, .ref a4])), (a4, .inl (cI, 16, .inl (fun _ => -1))), (q7, .inl (cI, 256, .inl (fun _ => 0)))] := hD
  refine lv_aload_n hx hb d_World_init_24 rfl (lv_at hl 0 rfl) ?_
  refine lv_bipush (v := 16) hx hb d_World_init_25 (by decide) ?_
  refine nw_i hx hb (hts _ k_44) hK 0 rfl hP hD hS hA (n := 16) (N' := 16) (by decide) (by decide) (by decide) (Nat.le_of_ble_eq_true rfl) (Nat.le_of_ble_eq_true rfl) d_World_init_27 (fun q8 H hP hD hS => ?_)
  have hP : va_P D cL [(h, .inr (6, [.ref q1, .int 0, .ref q7, .null, .null, .int 0, .null, .int 0, .int 0])), (q1, .inr (3, [.ref a2, .ref a3, .ref a4])), (a4, .inl (cI, 16, .inl (fun _ => -1))), (q7, .inl (cI, 256, .inl (fun _ => 0))), (q8, .inl (cI, 16, .inl (fun _ => 0)))] H := hP
  have hD : va_D A [(h, .inr (6, [.ref q1, .int 0, .ref q7, .null, .null, .int 0, .null, .int 0, .int 0])), (q1, .inr (3, [.ref a2, .ref a3, .ref a4])), (a4, .inl (cI, 16, .inl (fun _ => -1))), (q7, .inl (cI, 256, .inl (fun _ => 0))), (q8, .inl (cI, 16, .inl (fun _ => 0)))] := hD
  refine W.widen (k := 6) (n := 803) (Nat.le_of_ble_eq_true rfl) (Nat.le_of_ble_eq_true rfl) ?_
  refine va_putF (D := D) (ci := 6) (v := .ref q8) (ty := .array .int) (C := "TaleMachine$World") (T := F_World) (N := 9) hx hb hts in_World t_World t_World_ok n_World hown hK hP hD hS 0 rfl rfl 3 (by decide) (hts _ k_67) (fun _ h9 => h9) rfl hin rfl (by decide +kernel) rfl rfl (Nat.le_of_ble_eq_true rfl) d_World_init_29 (fun H locs hP hD hS => ?_)
  have hP : va_P D cL [(h, .inr (6, [.ref q1, .int 0, .ref q7, .ref q8, .null, .int 0, .null, .int 0, .int 0])), (q1, .inr (3, [.ref a2, .ref a3, .ref a4])), (a4, .inl (cI, 16, .inl (fun _ => -1))), (q7, .inl (cI, 256, .inl (fun _ => 0))), (q8, .inl (cI, 16, .inl (fun _ => 0)))] H := hP
  have hD : va_D A [(h, .inr (6, [.ref q1, .int 0, .ref q7, .ref q8, .null, .int 0, .null, .int 0, .int 0])), (q1, .inr (3, [.ref a2, .ref a3, .ref a4])), (a4, .inl (cI, 16, .inl (fun _ => -1))), (q7, .inl (cI, 256, .inl (fun _ => 0))), (q8, .inl (cI, 16, .inl (fun _ => 0)))] := hD
  refine lv_aload_n hx hb d_World_init_32 rfl (lv_at hl 0 rfl) ?_
  refine lv_bipush (v := 32) hx hb d_World_init_33 (by decide) ?_
  refine nw_i hx hb (hts _ k_44) hK 0 rfl hP hD hS hA (n := 32) (N' := 32) (by decide) (by decide) (by decide) (Nat.le_of_ble_eq_true rfl) (Nat.le_of_ble_eq_true rfl) d_World_init_35 (fun q9 H hP hD hS => ?_)
  have hP : va_P D cL [(h, .inr (6, [.ref q1, .int 0, .ref q7, .ref q8, .null, .int 0, .null, .int 0, .int 0])), (q1, .inr (3, [.ref a2, .ref a3, .ref a4])), (a4, .inl (cI, 16, .inl (fun _ => -1))), (q7, .inl (cI, 256, .inl (fun _ => 0))), (q8, .inl (cI, 16, .inl (fun _ => 0))), (q9, .inl (cI, 32, .inl (fun _ => 0)))] H := hP
  have hD : va_D A [(h, .inr (6, [.ref q1, .int 0, .ref q7, .ref q8, .null, .int 0, .null, .int 0, .int 0])), (q1, .inr (3, [.ref a2, .ref a3, .ref a4])), (a4, .inl (cI, 16, .inl (fun _ => -1))), (q7, .inl (cI, 256, .inl (fun _ => 0))), (q8, .inl (cI, 16, .inl (fun _ => 0))), (q9, .inl (cI, 32, .inl (fun _ => 0)))] := hD
  refine W.widen (k := 7) (n := 835) (Nat.le_of_ble_eq_true rfl) (Nat.le_of_ble_eq_true rfl) ?_
  refine va_putF (D := D) (ci := 6) (v := .ref q9) (ty := .array .int) (C := "TaleMachine$World") (T := F_World) (N := 9) hx hb hts in_World t_World t_World_ok n_World hown hK hP hD hS 0 rfl rfl 4 (by decide) (hts _ k_68) (fun _ h9 => h9) rfl hin rfl (by decide +kernel) rfl rfl (Nat.le_of_ble_eq_true rfl) d_World_init_37 (fun H locs hP hD hS => ?_)
  have hP : va_P D cL [(h, .inr (6, [.ref q1, .int 0, .ref q7, .ref q8, .ref q9, .int 0, .null, .int 0, .int 0])), (q1, .inr (3, [.ref a2, .ref a3, .ref a4])), (a4, .inl (cI, 16, .inl (fun _ => -1))), (q7, .inl (cI, 256, .inl (fun _ => 0))), (q8, .inl (cI, 16, .inl (fun _ => 0))), (q9, .inl (cI, 32, .inl (fun _ => 0)))] H := hP
  have hD : va_D A [(h, .inr (6, [.ref q1, .int 0, .ref q7, .ref q8, .ref q9, .int 0, .null, .int 0, .int 0])), (q1, .inr (3, [.ref a2, .ref a3, .ref a4])), (a4, .inl (cI, 16, .inl (fun _ => -1))), (q7, .inl (cI, 256, .inl (fun _ => 0))), (q8, .inl (cI, 16, .inl (fun _ => 0))), (q9, .inl (cI, 32, .inl (fun _ => 0)))] := hD
  refine lv_aload_n hx hb d_World_init_40 rfl (lv_at hl 0 rfl) ?_
  refine lv_bipush (v := 32) hx hb d_World_init_41 (by decide) ?_
  refine nw_i hx hb (hts _ k_44) hK 0 rfl hP hD hS hA (n := 32) (N' := 32) (by decide) (by decide) (by decide) (Nat.le_of_ble_eq_true rfl) (Nat.le_of_ble_eq_true rfl) d_World_init_43 (fun q10 H hP hD hS => ?_)
  have hP : va_P D cL [(h, .inr (6, [.ref q1, .int 0, .ref q7, .ref q8, .ref q9, .int 0, .null, .int 0, .int 0])), (q1, .inr (3, [.ref a2, .ref a3, .ref a4])), (a4, .inl (cI, 16, .inl (fun _ => -1))), (q7, .inl (cI, 256, .inl (fun _ => 0))), (q8, .inl (cI, 16, .inl (fun _ => 0))), (q9, .inl (cI, 32, .inl (fun _ => 0))), (q10, .inl (cI, 32, .inl (fun _ => 0)))] H := hP
  have hD : va_D A [(h, .inr (6, [.ref q1, .int 0, .ref q7, .ref q8, .ref q9, .int 0, .null, .int 0, .int 0])), (q1, .inr (3, [.ref a2, .ref a3, .ref a4])), (a4, .inl (cI, 16, .inl (fun _ => -1))), (q7, .inl (cI, 256, .inl (fun _ => 0))), (q8, .inl (cI, 16, .inl (fun _ => 0))), (q9, .inl (cI, 32, .inl (fun _ => 0))), (q10, .inl (cI, 32, .inl (fun _ => 0)))] := hD
  refine W.widen (k := 8) (n := 867) (Nat.le_of_ble_eq_true rfl) (Nat.le_of_ble_eq_true rfl) ?_
  refine va_putF (D := D) (ci := 6) (v := .ref q10) (ty := .array .int) (C := "TaleMachine$World") (T := F_World) (N := 9) hx hb hts in_World t_World t_World_ok n_World hown hK hP hD hS 0 rfl rfl 6 (by decide) (hts _ k_69) (fun _ h9 => h9) rfl hin rfl (by decide +kernel) rfl rfl (Nat.le_of_ble_eq_true rfl) d_World_init_45 (fun H locs hP hD hS => ?_)
  have hP : va_P D cL [(h, .inr (6, [.ref q1, .int 0, .ref q7, .ref q8, .ref q9, .int 0, .ref q10, .int 0, .int 0])), (q1, .inr (3, [.ref a2, .ref a3, .ref a4])), (a4, .inl (cI, 16, .inl (fun _ => -1))), (q7, .inl (cI, 256, .inl (fun _ => 0))), (q8, .inl (cI, 16, .inl (fun _ => 0))), (q9, .inl (cI, 32, .inl (fun _ => 0))), (q10, .inl (cI, 32, .inl (fun _ => 0)))] H := hP
  have hD : va_D A [(h, .inr (6, [.ref q1, .int 0, .ref q7, .ref q8, .ref q9, .int 0, .ref q10, .int 0, .int 0])), (q1, .inr (3, [.ref a2, .ref a3, .ref a4])), (a4, .inl (cI, 16, .inl (fun _ => -1))), (q7, .inl (cI, 256, .inl (fun _ => 0))), (q8, .inl (cI, 16, .inl (fun _ => 0))), (q9, .inl (cI, 32, .inl (fun _ => 0))), (q10, .inl (cI, 32, .inl (fun _ => 0)))] := hD
  exact end_v hx hb hr hlocks hS (u := (q1, q7, q8, q9, q10, a2, a3, a4)) (at_end (hP.sub (ws' := [(h, .inr (6, [.ref q1, .int 0, .ref q7, .ref q8, .ref q9, .int 0, .ref q10, .int 0, .int 0])), (q1, .inr (3, [.ref a2, .ref a3, .ref a4])), (a4, .inl (cI, 16, .inl (fun _ => -1))), (q7, .inl (cI, 256, .inl (fun _ => 0))), (q8, .inl (cI, 16, .inl (fun _ => 0)))]) [0, 1, 2, 3, 4] rfl) (hD.sub (ws' := [(h, .inr (6, [.ref q1, .int 0, .ref q7, .ref q8, .ref q9, .int 0, .ref q10, .int 0, .int 0])), (q1, .inr (3, [.ref a2, .ref a3, .ref a4])), (a4, .inl (cI, 16, .inl (fun _ => -1))), (q7, .inl (cI, 256, .inl (fun _ => 0))), (q8, .inl (cI, 16, .inl (fun _ => 0)))]) [0, 1, 2, 3, 4] (by decide) rfl)) (trivial) (Nat.le_of_ble_eq_true rfl) (Nat.le_of_ble_eq_true rfl) d_World_init_48

set_option maxHeartbeats 4000000 in
set_option maxRecDepth 100000 in
theorem c_History_init (l : Launch) (D : va_G) (cI cZ cJ : ClassId) (h : Nat) (sz : Nat)  : Met l y_History_init (.code y_History_init prog_3_method_1_code 2 none :: AW) ({ frames := 2, cells := 23, slots := 2662, locals := 43 }) (va_Pc [.ref h] (pre_ D [(h, .inr (1, [.null, .null, .null, .int 0]))] [(cI, .int), (cZ, .boolean), (cJ, .long)] sz)) (va_Qv (fun (u : Nat × Nat × Nat) => True) (fun u t => match u with | (pt, sv, iz) => post_ D (va_A [(h, .inr (1, [.null, .null, .null, .int 0]))] sz) [(h, .inr (1, [.ref pt, .ref sv, .ref iz, .int 0])), (iz, .inl (cZ, 2, .inl (fun _ => 0)))] t) (va_A [(h, .inr (1, [.null, .null, .null, .int 0]))] sz)) 23 2662 (va_A [(h, .inr (1, [.null, .null, .null, .int 0]))] sz) := by
  refine Met.ofW (cc := prog_3_method_1_code) (maxL := 2) (ret := none) (by decide) rfl ?_
  intro p e s m args below meth c s₁ B hml hv
  obtain ⟨rfl, rfl, hP, hK, hD0, hT⟩ := hv
  have hx := B.exec
  have hb := B.bytes
  have hr := B.returns
  have hts0 := atoms_spec (ws := .code y_History_init prog_3_method_1_code 2 none :: AW) B.pre
  have hts : ∀ w ∈ AW, w.before [.ref h].toArray s = true := fun w h => hts0 w (List.mem_cons_of_mem _ h)
  have hown : s.vm.findClass "TaleMachine$History" = some m.cls := findClass_of_methodNamed B.named
  have hlocks := B.notSynchronized
  have hin : meth.name = "<init>" := (name_of_methodNamed B.named B.method).1
  have hD := hD0.self (sz := s.heap.size)
  generalize hAe : va_A [(h, .inr (1, [.null, .null, .null, .int 0]))] s.heap.size = A at hD ⊢
  have hA : ∀ q : Nat, s.heap.size ≤ q → A q := fun q h => by rw [← hAe]; exact Or.inr h
  have hS : va_S A s.heap s.heap [] := va_S.rf
  have hl := lv_entry ([.ref h]) (n := 2) (Nat.le_of_ble_eq_true rfl)
  rw [lg_entry_eq]
  generalize (lg_sl ([.ref h]) ++ List.replicate (2 - (lg_sl ([.ref h])).length) Slot.unset).toArray = ls at hl ⊢
  have hl : lv_has ls 2 [(0, .ref h)] := hl
  refine lv_aload_n hx hb d_History_init_0 rfl (lv_at hl 0 rfl) ?_
  refine W.objInit hx hb hown (hts _ k_70) (hts _ k_42) (hts _ k_43) rfl (by rw [hml]; exact hl.1) rfl d_History_init_1 (Nat.le_of_ble_eq_true rfl) (Nat.le_of_ble_eq_true rfl) ?_
  refine W.eq (g2 := F0 m 4 ls []) rfl ?_
  refine lv_aload_n hx hb d_History_init_4 rfl (lv_at hl 0 rfl) ?_
  refine lv_iconst (v := 3) hx hb d_History_init_5 (by decide) ?_
  refine va_newq hx hb hown (hts _ k_71) (Tb_ao_State hT) hK hP hD hS hA (n := 3) (N' := 3) (by decide) (by decide) (by decide) (Nat.le_of_ble_eq_true rfl) (Nat.le_of_ble_eq_true rfl) d_History_init_6 (fun q1 cQ2 H hK hP hD hS => ?_)
  have hK : va_K D cL [(cI, .int), (cZ, .boolean), (cJ, .long), (cQ2, .object "TaleMachine$State")] s := hK
  have hP : va_P D cL [(h, .inr (1, [.null, .null, .null, .int 0])), (q1, .inl (cQ2, 3, .inr (.inr (.inr (.inr (fun _ => none))))))] H := hP
  have hD : va_D A [(h, .inr (1, [.null, .null, .null, .int 0])), (q1, .inl (cQ2, 3, .inr (.inr (.inr (.inr (fun _ => none))))))] := hD
  refine W.widen (k := 1) (n := 3) (Nat.le_of_ble_eq_true rfl) (Nat.le_of_ble_eq_true rfl) ?_
  refine va_putF (D := D) (ci := 1) (v := .ref q1) (ty := .array (.object "TaleMachine$State")) (C := "TaleMachine$History") (T := F_History) (N := 4) hx hb hts in_History t_History t_History_ok n_History hown hK hP hD hS 0 rfl rfl 0 (by decide) (hts _ k_72) (fun _ h9 => h9) rfl hin rfl (by decide +kernel) rfl rfl (Nat.le_of_ble_eq_true rfl) d_History_init_9 (fun H locs hP hD hS => ?_)
  have hP : va_P D cL [(h, .inr (1, [.ref q1, .null, .null, .int 0])), (q1, .inl (cQ2, 3, .inr (.inr (.inr (.inr (fun _ => none))))))] H := hP
  have hD : va_D A [(h, .inr (1, [.ref q1, .null, .null, .int 0])), (q1, .inl (cQ2, 3, .inr (.inr (.inr (.inr (fun _ => none))))))] := hD
  refine lv_aload_n hx hb d_History_init_12 rfl (lv_at hl 0 rfl) ?_
  refine lv_iconst (v := 2) hx hb d_History_init_13 (by decide) ?_
  refine va_newq hx hb hown (hts _ k_71) (Tb_ao_State hT) hK hP hD hS hA (n := 2) (N' := 2) (by decide) (by decide) (by decide) (Nat.le_of_ble_eq_true rfl) (Nat.le_of_ble_eq_true rfl) d_History_init_14 (fun q3 cQ4 H hK hP hD hS => ?_)
  have hK : va_K D cL [(cI, .int), (cZ, .boolean), (cJ, .long), (cQ2, .object "TaleMachine$State"), (cQ4, .object "TaleMachine$State")] s := hK
  have hP : va_P D cL [(h, .inr (1, [.ref q1, .null, .null, .int 0])), (q1, .inl (cQ2, 3, .inr (.inr (.inr (.inr (fun _ => none)))))), (q3, .inl (cQ4, 2, .inr (.inr (.inr (.inr (fun _ => none))))))] H := hP
  have hD : va_D A [(h, .inr (1, [.ref q1, .null, .null, .int 0])), (q1, .inl (cQ2, 3, .inr (.inr (.inr (.inr (fun _ => none)))))), (q3, .inl (cQ4, 2, .inr (.inr (.inr (.inr (fun _ => none))))))] := hD
  refine W.widen (k := 2) (n := 5) (Nat.le_of_ble_eq_true rfl) (Nat.le_of_ble_eq_true rfl) ?_
  refine va_putF (D := D) (ci := 1) (v := .ref q3) (ty := .array (.object "TaleMachine$State")) (C := "TaleMachine$History") (T := F_History) (N := 4) hx hb hts in_History t_History t_History_ok n_History hown hK hP hD hS 0 rfl rfl 1 (by decide) (hts _ k_73) (fun _ h9 => h9) rfl hin rfl (by decide +kernel) rfl rfl (Nat.le_of_ble_eq_true rfl) d_History_init_17 (fun H locs hP hD hS => ?_)
  have hP : va_P D cL [(h, .inr (1, [.ref q1, .ref q3, .null, .int 0])), (q1, .inl (cQ2, 3, .inr (.inr (.inr (.inr (fun _ => none)))))), (q3, .inl (cQ4, 2, .inr (.inr (.inr (.inr (fun _ => none))))))] H := hP
  have hD : va_D A [(h, .inr (1, [.ref q1, .ref q3, .null, .int 0])), (q1, .inl (cQ2, 3, .inr (.inr (.inr (.inr (fun _ => none)))))), (q3, .inl (cQ4, 2, .inr (.inr (.inr (.inr (fun _ => none))))))] := hD
  refine lv_aload_n hx hb d_History_init_20 rfl (lv_at hl 0 rfl) ?_
  refine lv_iconst (v := 2) hx hb d_History_init_21 (by decide) ?_
  refine nw_z hx hb (hts _ k_74) hK 1 rfl hP hD hS hA (n := 2) (N' := 2) (by decide) (by decide) (by decide) (Nat.le_of_ble_eq_true rfl) (Nat.le_of_ble_eq_true rfl) d_History_init_22 (fun q5 H hP hD hS => ?_)
  have hP : va_P D cL [(h, .inr (1, [.ref q1, .ref q3, .null, .int 0])), (q1, .inl (cQ2, 3, .inr (.inr (.inr (.inr (fun _ => none)))))), (q3, .inl (cQ4, 2, .inr (.inr (.inr (.inr (fun _ => none)))))), (q5, .inl (cZ, 2, .inl (fun _ => 0)))] H := hP
  have hD : va_D A [(h, .inr (1, [.ref q1, .ref q3, .null, .int 0])), (q1, .inl (cQ2, 3, .inr (.inr (.inr (.inr (fun _ => none)))))), (q3, .inl (cQ4, 2, .inr (.inr (.inr (.inr (fun _ => none)))))), (q5, .inl (cZ, 2, .inl (fun _ => 0)))] := hD
  refine W.widen (k := 3) (n := 7) (Nat.le_of_ble_eq_true rfl) (Nat.le_of_ble_eq_true rfl) ?_
  refine va_putF (D := D) (ci := 1) (v := .ref q5) (ty := .array .boolean) (C := "TaleMachine$History") (T := F_History) (N := 4) hx hb hts in_History t_History t_History_ok n_History hown hK hP hD hS 0 rfl rfl 2 (by decide) (hts _ k_75) (fun _ h9 => h9) rfl hin rfl (by decide +kernel) rfl rfl (Nat.le_of_ble_eq_true rfl) d_History_init_24 (fun H locs hP hD hS => ?_)
  have hP : va_P D cL [(h, .inr (1, [.ref q1, .ref q3, .ref q5, .int 0])), (q1, .inl (cQ2, 3, .inr (.inr (.inr (.inr (fun _ => none)))))), (q3, .inl (cQ4, 2, .inr (.inr (.inr (.inr (fun _ => none)))))), (q5, .inl (cZ, 2, .inl (fun _ => 0)))] H := hP
  have hD : va_D A [(h, .inr (1, [.ref q1, .ref q3, .ref q5, .int 0])), (q1, .inl (cQ2, 3, .inr (.inr (.inr (.inr (fun _ => none)))))), (q3, .inl (cQ4, 2, .inr (.inr (.inr (.inr (fun _ => none)))))), (q5, .inl (cZ, 2, .inl (fun _ => 0)))] := hD
  refine lv_iconst (v := 0) hx hb d_History_init_27 (by decide) ?_
  refine lv_istore_n (lv' := [(1, .int 0), (0, .ref h)]) hx hb d_History_init_28 rfl hl (by decide) rfl (fun ls hl => ?_)
  refine lv_iload_n hx hb d_History_init_29 rfl (lv_at hl 0 rfl) ?_
  refine lv_iconst (v := 3) hx hb d_History_init_30 (by decide) ?_
  refine lv_icmp_ge hx hb d_History_init_31 (tgt := 53) (by decide) (fun hz => absurd hz (by decide)) (fun _ => ?_)
  refine lv_aload_n hx hb d_History_init_34 rfl (lv_at hl 1 rfl) ?_
  refine va_get (D := D) (ci := 1) (v := .ref q1) (C := "TaleMachine$History") (T := F_History) (N := 4) hx hb hts in_History hown hK hP 0 rfl rfl 0 (by decide) (hts _ k_72) (fun _ h9 => h9) rfl d_History_init_35 ?_
  refine lv_iload_n hx hb d_History_init_38 rfl (lv_at hl 0 rfl) ?_
  refine va_new (ci := 3) (fs := [.null, .null, .null]) (C := "TaleMachine$State") (T := F_State) (N := 3) hx hb hts in_State t_State t_State_ok hown (hts _ k_71) (hts _ k_60) (hts _ k_61) hK hP hD hS hA rfl dv_State (Nat.le_of_ble_eq_true rfl) (Nat.le_of_ble_eq_true rfl) d_History_init_39 (fun q6 H hP hD hS => ?_)
  have hP : va_P D cL [(h, .inr (1, [.ref q1, .ref q3, .ref q5, .int 0])), (q1, .inl (cQ2, 3, .inr (.inr (.inr (.inr (fun _ => none)))))), (q3, .inl (cQ4, 2, .inr (.inr (.inr (.inr (fun _ => none)))))), (q5, .inl (cZ, 2, .inl (fun _ => 0))), (q6, .inr (3, [.null, .null, .null]))] H := hP
  have hD : va_D A [(h, .inr (1, [.ref q1, .ref q3, .ref q5, .int 0])), (q1, .inl (cQ2, 3, .inr (.inr (.inr (.inr (fun _ => none)))))), (q3, .inl (cQ4, 2, .inr (.inr (.inr (.inr (fun _ => none)))))), (q5, .inl (cZ, 2, .inl (fun _ => 0))), (q6, .inr (3, [.null, .null, .null]))] := hD
  refine W.widen (k := 4) (n := 10) (Nat.le_of_ble_eq_true rfl) (Nat.le_of_ble_eq_true rfl) ?_
  refine lv_dup hx hb d_History_init_42 rfl ?_
  refine mv_v (va_runI (As := []) (rest := [.ref q6, .int 0, .ref q1]) ⟨hx, hb, hml, hown, hts⟩ (c_State_init l D cI cZ cJ q6 _ ) (cwI 0 hts (gIn k_62) rfl rfl rfl (hts _ k_61) (hts _ k_76) (hts _ k_64) rfl (by decide +kernel) ⟨Nat.le_of_ble_eq_true rfl, Nat.le_of_ble_eq_true rfl⟩) (pre_S (hP.sub [4] rfl) (hK.sub [0, 1, 2] rfl) (hD.sub [4] (by decide) rfl) hT) rfl rfl hl.1 rfl (lv_room (Nat.le_of_ble_eq_true rfl)) d_History_init_43 ⟨Nat.le_of_ble_eq_true rfl, Nat.le_of_ble_eq_true rfl⟩) hP hD hS hA [4] [0, 1, 2, 3] rfl rfl (by decide) (by decide) (wr := [(h, .inr (1, [.ref q1, .ref q3, .ref q5, .int 0])), (q1, .inl (cQ2, 3, .inr (.inr (.inr (.inr (fun _ => none)))))), (q3, .inl (cQ4, 2, .inr (.inr (.inr (.inr (fun _ => none)))))), (q5, .inl (cZ, 2, .inl (fun _ => 0)))]) (wn := fun u => match u with | (kd, it, pa) => [(q6, .inr (3, [.ref kd, .ref it, .ref pa])), (pa, .inl (cI, 16, .inl (fun _ => -1)))]) (fun _ _ h9 => h9) (fun u H locs hp11 hP hD hS => ?_)
  obtain ⟨a7, a8, a9⟩ := u
  have hP : va_P D cL [(h, .inr (1, [.ref q1, .ref q3, .ref q5, .int 0])), (q1, .inl (cQ2, 3, .inr (.inr (.inr (.inr (fun _ => none)))))), (q3, .inl (cQ4, 2, .inr (.inr (.inr (.inr (fun _ => none)))))), (q5, .inl (cZ, 2, .inl (fun _ => 0))), (q6, .inr (3, [.ref a7, .ref a8, .ref a9])), (a9, .inl (cI, 16, .inl (fun _ => -1)))] H := hP
  have hD : va_D A [(h, .inr (1, [.ref q1, .ref q3, .ref q5, .int 0])), (q1, .inl (cQ2, 3, .inr (.inr (.inr (.inr (fun _ => none)))))), (q3, .inl (cQ4, 2, .inr (.inr (.inr (.inr (fun _ => none)))))), (q5, .inl (cZ, 2, .inl (fun _ => 0))), (q6, .inr (3, [.ref a7, .ref a8, .ref a9])), (a9, .inl (cI, 16, .inl (fun _ => -1)))] := hD
  refine W.widen (k := 7) (n := 538) (Nat.le_of_ble_eq_true rfl) (Nat.le_of_ble_eq_true rfl) ?_
  refine va_astq (r := ("TaleMachine$State", F_State, 3)) hx hb hK hP hD hS 1 3 4 3 rfl rfl rfl rfl (i := 0) (in_c (by decide)) d_History_init_46 (fun H locs hP hD hS => ?_)
  have hP : va_P D cL [(h, .inr (1, [.ref q1, .ref q3, .ref q5, .int 0])), (q1, .inl (cQ2, 3, .inr (.inr (.inr (.inr (va_up (fun _ => none) (0 : Int32).toNatClampNeg (some q6))))))), (q3, .inl (cQ4, 2, .inr (.inr (.inr (.inr (fun _ => none)))))), (q5, .inl (cZ, 2, .inl (fun _ => 0))), (q6, .inr (3, [.ref a7, .ref a8, .ref a9])), (a9, .inl (cI, 16, .inl (fun _ => -1)))] H := hP
  have hD : va_D A [(h, .inr (1, [.ref q1, .ref q3, .ref q5, .int 0])), (q1, .inl (cQ2, 3, .inr (.inr (.inr (.inr (va_up (fun _ => none) (0 : Int32).toNatClampNeg (some q6))))))), (q3, .inl (cQ4, 2, .inr (.inr (.inr (.inr (fun _ => none)))))), (q5, .inl (cZ, 2, .inl (fun _ => 0))), (q6, .inr (3, [.ref a7, .ref a8, .ref a9])), (a9, .inl (cI, 16, .inl (fun _ => -1)))] := hD
  generalize va_up (fun _ => none) (0 : Int32).toNatClampNeg (some q6) = f12 at hP hD
  have hP := hP.sub (ws' := [(h, .inr (1, [.ref q1, .ref q3, .ref q5, .int 0])), (q1, .inl (cQ2, 3, .inr (.inr (.inr (.inr f12))))), (q3, .inl (cQ4, 2, .inr (.inr (.inr (.inr (fun _ => none)))))), (q5, .inl (cZ, 2, .inl (fun _ => 0)))]) [0, 1, 2, 3] rfl
  have hD := hD.sub (ws' := [(h, .inr (1, [.ref q1, .ref q3, .ref q5, .int 0])), (q1, .inl (cQ2, 3, .inr (.inr (.inr (.inr f12))))), (q3, .inl (cQ4, 2, .inr (.inr (.inr (.inr (fun _ => none)))))), (q5, .inl (cZ, 2, .inl (fun _ => 0)))]) [0, 1, 2, 3] (by decide) rfl
  refine lv_iinc (v := 1) (lv' := [(1, .int 1), (0, .ref h)]) hx hb d_History_init_47 hl (k := 0) rfl (by decide) (by decide) rfl (fun ls hl => ?_)
  refine lv_goto hx hb d_History_init_50 (tgt := 29) (by decide) ?_
  refine lv_iload_n hx hb d_History_init_29 rfl (lv_at hl 0 rfl) ?_
  refine lv_iconst (v := 3) hx hb d_History_init_30 (by decide) ?_
  refine lv_icmp_ge hx hb d_History_init_31 (tgt := 53) (by decide) (fun hz => absurd hz (by decide)) (fun _ => ?_)
  refine lv_aload_n hx hb d_History_init_34 rfl (lv_at hl 1 rfl) ?_
  refine va_get (D := D) (ci := 1) (v := .ref q1) (C := "TaleMachine$History") (T := F_History) (N := 4) hx hb hts in_History hown hK hP 0 rfl rfl 0 (by decide) (hts _ k_72) (fun _ h9 => h9) rfl d_History_init_35 ?_
  refine lv_iload_n hx hb d_History_init_38 rfl (lv_at hl 0 rfl) ?_
  refine va_new (ci := 3) (fs := [.null, .null, .null]) (C := "TaleMachine$State") (T := F_State) (N := 3) hx hb hts in_State t_State t_State_ok hown (hts _ k_71) (hts _ k_60) (hts _ k_61) hK hP hD hS hA rfl dv_State (Nat.le_of_ble_eq_true rfl) (Nat.le_of_ble_eq_true rfl) d_History_init_39 (fun q13 H hP hD hS => ?_)
  have hP : va_P D cL [(h, .inr (1, [.ref q1, .ref q3, .ref q5, .int 0])), (q1, .inl (cQ2, 3, .inr (.inr (.inr (.inr f12))))), (q3, .inl (cQ4, 2, .inr (.inr (.inr (.inr (fun _ => none)))))), (q5, .inl (cZ, 2, .inl (fun _ => 0))), (q13, .inr (3, [.null, .null, .null]))] H := hP
  have hD : va_D A [(h, .inr (1, [.ref q1, .ref q3, .ref q5, .int 0])), (q1, .inl (cQ2, 3, .inr (.inr (.inr (.inr f12))))), (q3, .inl (cQ4, 2, .inr (.inr (.inr (.inr (fun _ => none)))))), (q5, .inl (cZ, 2, .inl (fun _ => 0))), (q13, .inr (3, [.null, .null, .null]))] := hD
  refine W.widen (k := 8) (n := 541) (Nat.le_of_ble_eq_true rfl) (Nat.le_of_ble_eq_true rfl) ?_
  refine lv_dup hx hb d_History_init_42 rfl ?_
  refine mv_v (va_runI (As := []) (rest := [.ref q13, .int 1, .ref q1]) ⟨hx, hb, hml, hown, hts⟩ (c_State_init l D cI cZ cJ q13 _ ) (cwI 0 hts (gIn k_62) rfl rfl rfl (hts _ k_61) (hts _ k_76) (hts _ k_64) rfl (by decide +kernel) ⟨Nat.le_of_ble_eq_true rfl, Nat.le_of_ble_eq_true rfl⟩) (pre_S (hP.sub [4] rfl) (hK.sub [0, 1, 2] rfl) (hD.sub [4] (by decide) rfl) hT) rfl rfl hl.1 rfl (lv_room (Nat.le_of_ble_eq_true rfl)) d_History_init_43 ⟨Nat.le_of_ble_eq_true rfl, Nat.le_of_ble_eq_true rfl⟩) hP hD hS hA [4] [0, 1, 2, 3] rfl rfl (by decide) (by decide) (wr := [(h, .inr (1, [.ref q1, .ref q3, .ref q5, .int 0])), (q1, .inl (cQ2, 3, .inr (.inr (.inr (.inr f12))))), (q3, .inl (cQ4, 2, .inr (.inr (.inr (.inr (fun _ => none)))))), (q5, .inl (cZ, 2, .inl (fun _ => 0)))]) (wn := fun u => match u with | (kd, it, pa) => [(q13, .inr (3, [.ref kd, .ref it, .ref pa])), (pa, .inl (cI, 16, .inl (fun _ => -1)))]) (fun _ _ h9 => h9) (fun u H locs hp18 hP hD hS => ?_)
  obtain ⟨a14, a15, a16⟩ := u
  have hP : va_P D cL [(h, .inr (1, [.ref q1, .ref q3, .ref q5, .int 0])), (q1, .inl (cQ2, 3, .inr (.inr (.inr (.inr f12))))), (q3, .inl (cQ4, 2, .inr (.inr (.inr (.inr (fun _ => none)))))), (q5, .inl (cZ, 2, .inl (fun _ => 0))), (q13, .inr (3, [.ref a14, .ref a15, .ref a16])), (a16, .inl (cI, 16, .inl (fun _ => -1)))] H := hP
  have hD : va_D A [(h, .inr (1, [.ref q1, .ref q3, .ref q5, .int 0])), (q1, .inl (cQ2, 3, .inr (.inr (.inr (.inr f12))))), (q3, .inl (cQ4, 2, .inr (.inr (.inr (.inr (fun _ => none)))))), (q5, .inl (cZ, 2, .inl (fun _ => 0))), (q13, .inr (3, [.ref a14, .ref a15, .ref a16])), (a16, .inl (cI, 16, .inl (fun _ => -1)))] := hD
  refine W.widen (k := 11) (n := 1069) (Nat.le_of_ble_eq_true rfl) (Nat.le_of_ble_eq_true rfl) ?_
  refine va_astq (r := ("TaleMachine$State", F_State, 3)) hx hb hK hP hD hS 1 3 4 3 rfl rfl rfl rfl (i := 1) (in_c (by decide)) d_History_init_46 (fun H locs hP hD hS => ?_)
  have hP : va_P D cL [(h, .inr (1, [.ref q1, .ref q3, .ref q5, .int 0])), (q1, .inl (cQ2, 3, .inr (.inr (.inr (.inr (va_up f12 (1 : Int32).toNatClampNeg (some q13))))))), (q3, .inl (cQ4, 2, .inr (.inr (.inr (.inr (fun _ => none)))))), (q5, .inl (cZ, 2, .inl (fun _ => 0))), (q13, .inr (3, [.ref a14, .ref a15, .ref a16])), (a16, .inl (cI, 16, .inl (fun _ => -1)))] H := hP
  have hD : va_D A [(h, .inr (1, [.ref q1, .ref q3, .ref q5, .int 0])), (q1, .inl (cQ2, 3, .inr (.inr (.inr (.inr (va_up f12 (1 : Int32).toNatClampNeg (some q13))))))), (q3, .inl (cQ4, 2, .inr (.inr (.inr (.inr (fun _ => none)))))), (q5, .inl (cZ, 2, .inl (fun _ => 0))), (q13, .inr (3, [.ref a14, .ref a15, .ref a16])), (a16, .inl (cI, 16, .inl (fun _ => -1)))] := hD
  generalize va_up f12 (1 : Int32).toNatClampNeg (some q13) = f19 at hP hD
  have hP := hP.sub (ws' := [(h, .inr (1, [.ref q1, .ref q3, .ref q5, .int 0])), (q1, .inl (cQ2, 3, .inr (.inr (.inr (.inr f19))))), (q3, .inl (cQ4, 2, .inr (.inr (.inr (.inr (fun _ => none)))))), (q5, .inl (cZ, 2, .inl (fun _ => 0)))]) [0, 1, 2, 3] rfl
  have hD := hD.sub (ws' := [(h, .inr (1, [.ref q1, .ref q3, .ref q5, .int 0])), (q1, .inl (cQ2, 3, .inr (.inr (.inr (.inr f19))))), (q3, .inl (cQ4, 2, .inr (.inr (.inr (.inr (fun _ => none)))))), (q5, .inl (cZ, 2, .inl (fun _ => 0)))]) [0, 1, 2, 3] (by decide) rfl
  refine lv_iinc (v := 2) (lv' := [(1, .int 2), (0, .ref h)]) hx hb d_History_init_47 hl (k := 0) rfl (by decide) (by decide) rfl (fun ls hl => ?_)
  refine lv_goto hx hb d_History_init_50 (tgt := 29) (by decide) ?_
  refine lv_iload_n hx hb d_History_init_29 rfl (lv_at hl 0 rfl) ?_
  refine lv_iconst (v := 3) hx hb d_History_init_30 (by decide) ?_
  refine lv_icmp_ge hx hb d_History_init_31 (tgt := 53) (by decide) (fun hz => absurd hz (by decide)) (fun _ => ?_)
  refine lv_aload_n hx hb d_History_init_34 rfl (lv_at hl 1 rfl) ?_
  refine va_get (D := D) (ci := 1) (v := .ref q1) (C := "TaleMachine$History") (T := F_History) (N := 4) hx hb hts in_History hown hK hP 0 rfl rfl 0 (by decide) (hts _ k_72) (fun _ h9 => h9) rfl d_History_init_35 ?_
  refine lv_iload_n hx hb d_History_init_38 rfl (lv_at hl 0 rfl) ?_
  refine va_new (ci := 3) (fs := [.null, .null, .null]) (C := "TaleMachine$State") (T := F_State) (N := 3) hx hb hts in_State t_State t_State_ok hown (hts _ k_71) (hts _ k_60) (hts _ k_61) hK hP hD hS hA rfl dv_State (Nat.le_of_ble_eq_true rfl) (Nat.le_of_ble_eq_true rfl) d_History_init_39 (fun q20 H hP hD hS => ?_)
  have hP : va_P D cL [(h, .inr (1, [.ref q1, .ref q3, .ref q5, .int 0])), (q1, .inl (cQ2, 3, .inr (.inr (.inr (.inr f19))))), (q3, .inl (cQ4, 2, .inr (.inr (.inr (.inr (fun _ => none)))))), (q5, .inl (cZ, 2, .inl (fun _ => 0))), (q20, .inr (3, [.null, .null, .null]))] H := hP
  have hD : va_D A [(h, .inr (1, [.ref q1, .ref q3, .ref q5, .int 0])), (q1, .inl (cQ2, 3, .inr (.inr (.inr (.inr f19))))), (q3, .inl (cQ4, 2, .inr (.inr (.inr (.inr (fun _ => none)))))), (q5, .inl (cZ, 2, .inl (fun _ => 0))), (q20, .inr (3, [.null, .null, .null]))] := hD
  refine W.widen (k := 12) (n := 1072) (Nat.le_of_ble_eq_true rfl) (Nat.le_of_ble_eq_true rfl) ?_
  refine lv_dup hx hb d_History_init_42 rfl ?_
  refine mv_v (va_runI (As := []) (rest := [.ref q20, .int 2, .ref q1]) ⟨hx, hb, hml, hown, hts⟩ (c_State_init l D cI cZ cJ q20 _ ) (cwI 0 hts (gIn k_62) rfl rfl rfl (hts _ k_61) (hts _ k_76) (hts _ k_64) rfl (by decide +kernel) ⟨Nat.le_of_ble_eq_true rfl, Nat.le_of_ble_eq_true rfl⟩) (pre_S (hP.sub [4] rfl) (hK.sub [0, 1, 2] rfl) (hD.sub [4] (by decide) rfl) hT) rfl rfl hl.1 rfl (lv_room (Nat.le_of_ble_eq_true rfl)) d_History_init_43 ⟨Nat.le_of_ble_eq_true rfl, Nat.le_of_ble_eq_true rfl⟩) hP hD hS hA [4] [0, 1, 2, 3] rfl rfl (by decide) (by decide) (wr := [(h, .inr (1, [.ref q1, .ref q3, .ref q5, .int 0])), (q1, .inl (cQ2, 3, .inr (.inr (.inr (.inr f19))))), (q3, .inl (cQ4, 2, .inr (.inr (.inr (.inr (fun _ => none)))))), (q5, .inl (cZ, 2, .inl (fun _ => 0)))]) (wn := fun u => match u with | (kd, it, pa) => [(q20, .inr (3, [.ref kd, .ref it, .ref pa])), (pa, .inl (cI, 16, .inl (fun _ => -1)))]) (fun _ _ h9 => h9) (fun u H locs hp25 hP hD hS => ?_)
  obtain ⟨a21, a22, a23⟩ := u
  have hP : va_P D cL [(h, .inr (1, [.ref q1, .ref q3, .ref q5, .int 0])), (q1, .inl (cQ2, 3, .inr (.inr (.inr (.inr f19))))), (q3, .inl (cQ4, 2, .inr (.inr (.inr (.inr (fun _ => none)))))), (q5, .inl (cZ, 2, .inl (fun _ => 0))), (q20, .inr (3, [.ref a21, .ref a22, .ref a23])), (a23, .inl (cI, 16, .inl (fun _ => -1)))] H := hP
  have hD : va_D A [(h, .inr (1, [.ref q1, .ref q3, .ref q5, .int 0])), (q1, .inl (cQ2, 3, .inr (.inr (.inr (.inr f19))))), (q3, .inl (cQ4, 2, .inr (.inr (.inr (.inr (fun _ => none)))))), (q5, .inl (cZ, 2, .inl (fun _ => 0))), (q20, .inr (3, [.ref a21, .ref a22, .ref a23])), (a23, .inl (cI, 16, .inl (fun _ => -1)))] := hD
  refine W.widen (k := 15) (n := 1600) (Nat.le_of_ble_eq_true rfl) (Nat.le_of_ble_eq_true rfl) ?_
  refine va_astq (r := ("TaleMachine$State", F_State, 3)) hx hb hK hP hD hS 1 3 4 3 rfl rfl rfl rfl (i := 2) (in_c (by decide)) d_History_init_46 (fun H locs hP hD hS => ?_)
  have hP : va_P D cL [(h, .inr (1, [.ref q1, .ref q3, .ref q5, .int 0])), (q1, .inl (cQ2, 3, .inr (.inr (.inr (.inr (va_up f19 (2 : Int32).toNatClampNeg (some q20))))))), (q3, .inl (cQ4, 2, .inr (.inr (.inr (.inr (fun _ => none)))))), (q5, .inl (cZ, 2, .inl (fun _ => 0))), (q20, .inr (3, [.ref a21, .ref a22, .ref a23])), (a23, .inl (cI, 16, .inl (fun _ => -1)))] H := hP
  have hD : va_D A [(h, .inr (1, [.ref q1, .ref q3, .ref q5, .int 0])), (q1, .inl (cQ2, 3, .inr (.inr (.inr (.inr (va_up f19 (2 : Int32).toNatClampNeg (some q20))))))), (q3, .inl (cQ4, 2, .inr (.inr (.inr (.inr (fun _ => none)))))), (q5, .inl (cZ, 2, .inl (fun _ => 0))), (q20, .inr (3, [.ref a21, .ref a22, .ref a23])), (a23, .inl (cI, 16, .inl (fun _ => -1)))] := hD
  generalize va_up f19 (2 : Int32).toNatClampNeg (some q20) = f26 at hP hD
  have hP := hP.sub (ws' := [(h, .inr (1, [.ref q1, .ref q3, .ref q5, .int 0])), (q1, .inl (cQ2, 3, .inr (.inr (.inr (.inr f26))))), (q3, .inl (cQ4, 2, .inr (.inr (.inr (.inr (fun _ => none)))))), (q5, .inl (cZ, 2, .inl (fun _ => 0)))]) [0, 1, 2, 3] rfl
  have hD := hD.sub (ws' := [(h, .inr (1, [.ref q1, .ref q3, .ref q5, .int 0])), (q1, .inl (cQ2, 3, .inr (.inr (.inr (.inr f26))))), (q3, .inl (cQ4, 2, .inr (.inr (.inr (.inr (fun _ => none)))))), (q5, .inl (cZ, 2, .inl (fun _ => 0)))]) [0, 1, 2, 3] (by decide) rfl
  refine lv_iinc (v := 3) (lv' := [(1, .int 3), (0, .ref h)]) hx hb d_History_init_47 hl (k := 0) rfl (by decide) (by decide) rfl (fun ls hl => ?_)
  refine lv_goto hx hb d_History_init_50 (tgt := 29) (by decide) ?_
  refine lv_iload_n hx hb d_History_init_29 rfl (lv_at hl 0 rfl) ?_
  refine lv_iconst (v := 3) hx hb d_History_init_30 (by decide) ?_
  refine lv_icmp_ge hx hb d_History_init_31 (tgt := 53) (by decide) (fun _ => ?_) (fun hz => absurd (by decide) hz)
  refine lv_iconst (v := 0) hx hb d_History_init_53 (by decide) ?_
  refine lv_istore_n (lv' := [(1, .int 0), (0, .ref h)]) hx hb d_History_init_54 rfl hl (by decide) rfl (fun ls hl => ?_)
  refine lv_iload_n hx hb d_History_init_55 rfl (lv_at hl 0 rfl) ?_
  refine lv_iconst (v := 2) hx hb d_History_init_56 (by decide) ?_
  refine lv_icmp_ge hx hb d_History_init_57 (tgt := 79) (by decide) (fun hz => absurd hz (by decide)) (fun _ => ?_)
  refine lv_aload_n hx hb d_History_init_60 rfl (lv_at hl 1 rfl) ?_
  refine va_get (D := D) (ci := 1) (v := .ref q3) (C := "TaleMachine$History") (T := F_History) (N := 4) hx hb hts in_History hown hK hP 0 rfl rfl 1 (by decide) (hts _ k_73) (fun _ h9 => h9) rfl d_History_init_61 ?_
  refine lv_iload_n hx hb d_History_init_64 rfl (lv_at hl 0 rfl) ?_
  refine va_new (ci := 3) (fs := [.null, .null, .null]) (C := "TaleMachine$State") (T := F_State) (N := 3) hx hb hts in_State t_State t_State_ok hown (hts _ k_71) (hts _ k_60) (hts _ k_61) hK hP hD hS hA rfl dv_State (Nat.le_of_ble_eq_true rfl) (Nat.le_of_ble_eq_true rfl) d_History_init_65 (fun q27 H hP hD hS => ?_)
  have hP : va_P D cL [(h, .inr (1, [.ref q1, .ref q3, .ref q5, .int 0])), (q1, .inl (cQ2, 3, .inr (.inr (.inr (.inr f26))))), (q3, .inl (cQ4, 2, .inr (.inr (.inr (.inr (fun _ => none)))))), (q5, .inl (cZ, 2, .inl (fun _ => 0))), (q27, .inr (3, [.null, .null, .null]))] H := hP
  have hD : va_D A [(h, .inr (1, [.ref q1, .ref q3, .ref q5, .int 0])), (q1, .inl (cQ2, 3, .inr (.inr (.inr (.inr f26))))), (q3, .inl (cQ4, 2, .inr (.inr (.inr (.inr (fun _ => none)))))), (q5, .inl (cZ, 2, .inl (fun _ => 0))), (q27, .inr (3, [.null, .null, .null]))] := hD
  refine W.widen (k := 16) (n := 1603) (Nat.le_of_ble_eq_true rfl) (Nat.le_of_ble_eq_true rfl) ?_
  refine lv_dup hx hb d_History_init_68 rfl ?_
  refine mv_v (va_runI (As := []) (rest := [.ref q27, .int 0, .ref q3]) ⟨hx, hb, hml, hown, hts⟩ (c_State_init l D cI cZ cJ q27 _ ) (cwI 0 hts (gIn k_62) rfl rfl rfl (hts _ k_61) (hts _ k_76) (hts _ k_64) rfl (by decide +kernel) ⟨Nat.le_of_ble_eq_true rfl, Nat.le_of_ble_eq_true rfl⟩) (pre_S (hP.sub [4] rfl) (hK.sub [0, 1, 2] rfl) (hD.sub [4] (by decide) rfl) hT) rfl rfl hl.1 rfl (lv_room (Nat.le_of_ble_eq_true rfl)) d_History_init_69 ⟨Nat.le_of_ble_eq_true rfl, Nat.le_of_ble_eq_true rfl⟩) hP hD hS hA [4] [0, 1, 2, 3] rfl rfl (by decide) (by decide) (wr := [(h, .inr (1, [.ref q1, .ref q3, .ref q5, .int 0])), (q1, .inl (cQ2, 3, .inr (.inr (.inr (.inr f26))))), (q3, .inl (cQ4, 2, .inr (.inr (.inr (.inr (fun _ => none)))))), (q5, .inl (cZ, 2, .inl (fun _ => 0)))]) (wn := fun u => match u with | (kd, it, pa) => [(q27, .inr (3, [.ref kd, .ref it, .ref pa])), (pa, .inl (cI, 16, .inl (fun _ => -1)))]) (fun _ _ h9 => h9) (fun u H locs hp32 hP hD hS => ?_)
  obtain ⟨a28, a29, a30⟩ := u
  have hP : va_P D cL [(h, .inr (1, [.ref q1, .ref q3, .ref q5, .int 0])), (q1, .inl (cQ2, 3, .inr (.inr (.inr (.inr f26))))), (q3, .inl (cQ4, 2, .inr (.inr (.inr (.inr (fun _ => none)))))), (q5, .inl (cZ, 2, .inl (fun _ => 0))), (q27, .inr (3, [.ref a28, .ref a29, .ref a30])), (a30, .inl (cI, 16, .inl (fun _ => -1)))] H := hP
  have hD : va_D A [(h, .inr (1, [.ref q1, .ref q3, .ref q5, .int 0])), (q1, .inl (cQ2, 3, .inr (.inr (.inr (.inr f26))))), (q3, .inl (cQ4, 2, .inr (.inr (.inr (.inr (fun _ => none)))))), (q5, .inl (cZ, 2, .inl (fun _ => 0))), (q27, .inr (3, [.ref a28, .ref a29, .ref a30])), (a30, .inl (cI, 16, .inl (fun _ => -1)))] := hD
  refine W.widen (k := 19) (n := 2131) (Nat.le_of_ble_eq_true rfl) (Nat.le_of_ble_eq_true rfl) ?_
  refine va_astq (r := ("TaleMachine$State", F_State, 3)) hx hb hK hP hD hS 2 4 4 3 rfl rfl rfl rfl (i := 0) (in_c (by decide)) d_History_init_72 (fun H locs hP hD hS => ?_)
  have hP : va_P D cL [(h, .inr (1, [.ref q1, .ref q3, .ref q5, .int 0])), (q1, .inl (cQ2, 3, .inr (.inr (.inr (.inr f26))))), (q3, .inl (cQ4, 2, .inr (.inr (.inr (.inr (va_up (fun _ => none) (0 : Int32).toNatClampNeg (some q27))))))), (q5, .inl (cZ, 2, .inl (fun _ => 0))), (q27, .inr (3, [.ref a28, .ref a29, .ref a30])), (a30, .inl (cI, 16, .inl (fun _ => -1)))] H := hP
  have hD : va_D A [(h, .inr (1, [.ref q1, .ref q3, .ref q5, .int 0])), (q1, .inl (cQ2, 3, .inr (.inr (.inr (.inr f26))))), (q3, .inl (cQ4, 2, .inr (.inr (.inr (.inr (va_up (fun _ => none) (0 : Int32).toNatClampNeg (some q27))))))), (q5, .inl (cZ, 2, .inl (fun _ => 0))), (q27, .inr (3, [.ref a28, .ref a29, .ref a30])), (a30, .inl (cI, 16, .inl (fun _ => -1)))] := hD
  generalize va_up (fun _ => none) (0 : Int32).toNatClampNeg (some q27) = f33 at hP hD
  have hP := hP.sub (ws' := [(h, .inr (1, [.ref q1, .ref q3, .ref q5, .int 0])), (q1, .inl (cQ2, 3, .inr (.inr (.inr (.inr f26))))), (q3, .inl (cQ4, 2, .inr (.inr (.inr (.inr f33))))), (q5, .inl (cZ, 2, .inl (fun _ => 0)))]) [0, 1, 2, 3] rfl
  have hD := hD.sub (ws' := [(h, .inr (1, [.ref q1, .ref q3, .ref q5, .int 0])), (q1, .inl (cQ2, 3, .inr (.inr (.inr (.inr f26))))), (q3, .inl (cQ4, 2, .inr (.inr (.inr (.inr f33))))), (q5, .inl (cZ, 2, .inl (fun _ => 0)))]) [0, 1, 2, 3] (by decide) rfl
  refine lv_iinc (v := 1) (lv' := [(1, .int 1), (0, .ref h)]) hx hb d_History_init_73 hl (k := 0) rfl (by decide) (by decide) rfl (fun ls hl => ?_)
  refine lv_goto hx hb d_History_init_76 (tgt := 55) (by decide) ?_
  refine lv_iload_n hx hb d_History_init_55 rfl (lv_at hl 0 rfl) ?_
  refine lv_iconst (v := 2) hx hb d_History_init_56 (by decide) ?_
  refine lv_icmp_ge hx hb d_History_init_57 (tgt := 79) (by decide) (fun hz => absurd hz (by decide)) (fun _ => ?_)
  refine lv_aload_n hx hb d_History_init_60 rfl (lv_at hl 1 rfl) ?_
  refine va_get (D := D) (ci := 1) (v := .ref q3) (C := "TaleMachine$History") (T := F_History) (N := 4) hx hb hts in_History hown hK hP 0 rfl rfl 1 (by decide) (hts _ k_73) (fun _ h9 => h9) rfl d_History_init_61 ?_
  refine lv_iload_n hx hb d_History_init_64 rfl (lv_at hl 0 rfl) ?_
  refine va_new (ci := 3) (fs := [.null, .null, .null]) (C := "TaleMachine$State") (T := F_State) (N := 3) hx hb hts in_State t_State t_State_ok hown (hts _ k_71) (hts _ k_60) (hts _ k_61) hK hP hD hS hA rfl dv_State (Nat.le_of_ble_eq_true rfl) (Nat.le_of_ble_eq_true rfl) d_History_init_65 (fun q34 H hP hD hS => ?_)
  have hP : va_P D cL [(h, .inr (1, [.ref q1, .ref q3, .ref q5, .int 0])), (q1, .inl (cQ2, 3, .inr (.inr (.inr (.inr f26))))), (q3, .inl (cQ4, 2, .inr (.inr (.inr (.inr f33))))), (q5, .inl (cZ, 2, .inl (fun _ => 0))), (q34, .inr (3, [.null, .null, .null]))] H := hP
  have hD : va_D A [(h, .inr (1, [.ref q1, .ref q3, .ref q5, .int 0])), (q1, .inl (cQ2, 3, .inr (.inr (.inr (.inr f26))))), (q3, .inl (cQ4, 2, .inr (.inr (.inr (.inr f33))))), (q5, .inl (cZ, 2, .inl (fun _ => 0))), (q34, .inr (3, [.null, .null, .null]))] := hD
  refine W.widen (k := 20) (n := 2134) (Nat.le_of_ble_eq_true rfl) (Nat.le_of_ble_eq_true rfl) ?_
  refine lv_dup hx hb d_History_init_68 rfl ?_
  refine mv_v (va_runI (As := []) (rest := [.ref q34, .int 1, .ref q3]) ⟨hx, hb, hml, hown, hts⟩ (c_State_init l D cI cZ cJ q34 _ ) (cwI 0 hts (gIn k_62) rfl rfl rfl (hts _ k_61) (hts _ k_76) (hts _ k_64) rfl (by decide +kernel) ⟨Nat.le_of_ble_eq_true rfl, Nat.le_of_ble_eq_true rfl⟩) (pre_S (hP.sub [4] rfl) (hK.sub [0, 1, 2] rfl) (hD.sub [4] (by decide) rfl) hT) rfl rfl hl.1 rfl (lv_room (Nat.le_of_ble_eq_true rfl)) d_History_init_69 ⟨Nat.le_of_ble_eq_true rfl, Nat.le_of_ble_eq_true rfl⟩) hP hD hS hA [4] [0, 1, 2, 3] rfl rfl (by decide) (by decide) (wr := [(h, .inr (1, [.ref q1, .ref q3, .ref q5, .int 0])), (q1, .inl (cQ2, 3, .inr (.inr (.inr (.inr f26))))), (q3, .inl (cQ4, 2, .inr (.inr (.inr (.inr f33))))), (q5, .inl (cZ, 2, .inl (fun _ => 0)))]) (wn := fun u => match u with | (kd, it, pa) => [(q34, .inr (3, [.ref kd, .ref it, .ref pa])), (pa, .inl (cI, 16, .inl (fun _ => -1)))]) (fun _ _ h9 => h9) (fun u H locs hp39 hP hD hS => ?_)
  obtain ⟨a35, a36, a37⟩ := u
  have hP : va_P D cL [(h, .inr (1, [.ref q1, .ref q3, .ref q5, .int 0])), (q1, .inl (cQ2, 3, .inr (.inr (.inr (.inr f26))))), (q3, .inl (cQ4, 2, .inr (.inr (.inr (.inr f33))))), (q5, .inl (cZ, 2, .inl (fun _ => 0))), (q34, .inr (3, [.ref a35, .ref a36, .ref a37])), (a37, .inl (cI, 16, .inl (fun _ => -1)))] H := hP
  have hD : va_D A [(h, .inr (1, [.ref q1, .ref q3, .ref q5, .int 0])), (q1, .inl (cQ2, 3, .inr (.inr (.inr (.inr f26))))), (q3, .inl (cQ4, 2, .inr (.inr (.inr (.inr f33))))), (q5, .inl (cZ, 2, .inl (fun _ => 0))), (q34, .inr (3, [.ref a35, .ref a36, .ref a37])), (a37, .inl (cI, 16, .inl (fun _ => -1)))] := hD
  refine W.widen (k := 23) (n := 2662) (Nat.le_of_ble_eq_true rfl) (Nat.le_of_ble_eq_true rfl) ?_
  refine va_astq (r := ("TaleMachine$State", F_State, 3)) hx hb hK hP hD hS 2 4 4 3 rfl rfl rfl rfl (i := 1) (in_c (by decide)) d_History_init_72 (fun H locs hP hD hS => ?_)
  have hP : va_P D cL [(h, .inr (1, [.ref q1, .ref q3, .ref q5, .int 0])), (q1, .inl (cQ2, 3, .inr (.inr (.inr (.inr f26))))), (q3, .inl (cQ4, 2, .inr (.inr (.inr (.inr (va_up f33 (1 : Int32).toNatClampNeg (some q34))))))), (q5, .inl (cZ, 2, .inl (fun _ => 0))), (q34, .inr (3, [.ref a35, .ref a36, .ref a37])), (a37, .inl (cI, 16, .inl (fun _ => -1)))] H := hP
  have hD : va_D A [(h, .inr (1, [.ref q1, .ref q3, .ref q5, .int 0])), (q1, .inl (cQ2, 3, .inr (.inr (.inr (.inr f26))))), (q3, .inl (cQ4, 2, .inr (.inr (.inr (.inr (va_up f33 (1 : Int32).toNatClampNeg (some q34))))))), (q5, .inl (cZ, 2, .inl (fun _ => 0))), (q34, .inr (3, [.ref a35, .ref a36, .ref a37])), (a37, .inl (cI, 16, .inl (fun _ => -1)))] := hD
  generalize va_up f33 (1 : Int32).toNatClampNeg (some q34) = f40 at hP hD
  have hP := hP.sub (ws' := [(h, .inr (1, [.ref q1, .ref q3, .ref q5, .int 0])), (q1, .inl (cQ2, 3, .inr (.inr (.inr (.inr f26))))), (q3, .inl (cQ4, 2, .inr (.inr (.inr (.inr f40))))), (q5, .inl (cZ, 2, .inl (fun _ => 0)))]) [0, 1, 2, 3] rfl
  have hD := hD.sub (ws' := [(h, .inr (1, [.ref q1, .ref q3, .ref q5, .int 0])), (q1, .inl (cQ2, 3, .inr (.inr (.inr (.inr f26))))), (q3, .inl (cQ4, 2, .inr (.inr (.inr (.inr f40))))), (q5, .inl (cZ, 2, .inl (fun _ => 0)))]) [0, 1, 2, 3] (by decide) rfl
  refine lv_iinc (v := 2) (lv' := [(1, .int 2), (0, .ref h)]) hx hb d_History_init_73 hl (k := 0) rfl (by decide) (by decide) rfl (fun ls hl => ?_)
  refine lv_goto hx hb d_History_init_76 (tgt := 55) (by decide) ?_
  refine lv_iload_n hx hb d_History_init_55 rfl (lv_at hl 0 rfl) ?_
  refine lv_iconst (v := 2) hx hb d_History_init_56 (by decide) ?_
  refine lv_icmp_ge hx hb d_History_init_57 (tgt := 79) (by decide) (fun _ => ?_) (fun hz => absurd (by decide) hz)
  exact end_v hx hb hr hlocks hS (u := (q1, q3, q5)) (at_end (hP.sub (ws' := [(h, .inr (1, [.ref q1, .ref q3, .ref q5, .int 0])), (q5, .inl (cZ, 2, .inl (fun _ => 0)))]) [0, 3] rfl) (hD.sub (ws' := [(h, .inr (1, [.ref q1, .ref q3, .ref q5, .int 0])), (q5, .inl (cZ, 2, .inl (fun _ => 0)))]) [0, 3] (by decide) rfl)) (trivial) (Nat.le_of_ble_eq_true rfl) (Nat.le_of_ble_eq_true rfl) d_History_init_79

set_option maxHeartbeats 4000000 in
set_option maxRecDepth 100000 in
theorem c_Teller_init (l : Launch) (D : va_G) (cI cZ cJ : ClassId) (h sc wo hi : Nat) (sz : Nat)  : Met l y_Teller_init (.code y_Teller_init prog_6_method_1_code 5 none :: AW) ({ frames := 2, cells := 18, slots := 263, locals := 35 }) (va_Pc [.ref h, .ref sc, .ref wo, .ref hi] (pre_ D [(h, .inr (4, [.null, .null, .null, .null, .null, .null, .null, .int 0, .int 0]))] [(cI, .int), (cZ, .boolean), (cJ, .long)] sz)) (va_Qv (fun (u : Nat × Nat × Nat × Nat × Nat × Nat × Nat × Nat × Nat × Nat) => True) (fun u t => match u with | (fr, va, sa, re, vk, vi, sk, si, rk, ri) => post_ D (va_A [(h, .inr (4, [.null, .null, .null, .null, .null, .null, .null, .int 0, .int 0]))] sz) [(h, .inr (4, [.ref sc, .ref wo, .ref hi, .ref fr, .ref va, .ref sa, .ref re, .int 0, .int (-1)])), (va, .inr (5, [.ref vk, .ref vi, .int 0])), (sa, .inr (5, [.ref sk, .ref si, .int 0])), (re, .inr (5, [.ref rk, .ref ri, .int 0]))] t) (va_A [(h, .inr (4, [.null, .null, .null, .null, .null, .null, .null, .int 0, .int 0]))] sz)) 18 263 (va_A [(h, .inr (4, [.null, .null, .null, .null, .null, .null, .null, .int 0, .int 0]))] sz) := by
  refine Met.ofW (cc := prog_6_method_1_code) (maxL := 5) (ret := none) (by decide) rfl ?_
  intro p e s m args below meth c s₁ B hml hv
  obtain ⟨rfl, rfl, hP, hK, hD0, hT⟩ := hv
  have hx := B.exec
  have hb := B.bytes
  have hr := B.returns
  have hts0 := atoms_spec (ws := .code y_Teller_init prog_6_method_1_code 5 none :: AW) B.pre
  have hts : ∀ w ∈ AW, w.before [.ref h, .ref sc, .ref wo, .ref hi].toArray s = true := fun w h => hts0 w (List.mem_cons_of_mem _ h)
  have hown : s.vm.findClass "TaleMachine$Teller" = some m.cls := findClass_of_methodNamed B.named
  have hlocks := B.notSynchronized
  have hin : meth.name = "<init>" := (name_of_methodNamed B.named B.method).1
  have hD := hD0.self (sz := s.heap.size)
  generalize hAe : va_A [(h, .inr (4, [.null, .null, .null, .null, .null, .null, .null, .int 0, .int 0]))] s.heap.size = A at hD ⊢
  have hA : ∀ q : Nat, s.heap.size ≤ q → A q := fun q h => by rw [← hAe]; exact Or.inr h
  have hS : va_S A s.heap s.heap [] := va_S.rf
  have hl := lv_entry ([.ref h, .ref sc, .ref wo, .ref hi]) (n := 5) (Nat.le_of_ble_eq_true rfl)
  rw [lg_entry_eq]
  generalize (lg_sl ([.ref h, .ref sc, .ref wo, .ref hi]) ++ List.replicate (5 - (lg_sl ([.ref h, .ref sc, .ref wo, .ref hi])).length) Slot.unset).toArray = ls at hl ⊢
  have hl : lv_has ls 5 [(0, .ref h), (1, .ref sc), (2, .ref wo), (3, .ref hi)] := hl
  refine lv_aload_n hx hb d_Teller_init_0 rfl (lv_at hl 0 rfl) ?_
  refine W.objInit hx hb hown (hts _ k_77) (hts _ k_42) (hts _ k_43) rfl (by rw [hml]; exact hl.1) rfl d_Teller_init_1 (Nat.le_of_ble_eq_true rfl) (Nat.le_of_ble_eq_true rfl) ?_
  refine W.eq (g2 := F0 m 4 ls []) rfl ?_
  refine lv_aload_n hx hb d_Teller_init_4 rfl (lv_at hl 0 rfl) ?_
  refine lv_bipush (v := 8) hx hb d_Teller_init_5 (by decide) ?_
  refine va_newq hx hb hown (hts _ k_78) (Tb_ao_Frame hT) hK hP hD hS hA (n := 8) (N' := 8) (by decide) (by decide) (by decide) (Nat.le_of_ble_eq_true rfl) (Nat.le_of_ble_eq_true rfl) d_Teller_init_7 (fun q1 cQ2 H hK hP hD hS => ?_)
  have hK : va_K D cL [(cI, .int), (cZ, .boolean), (cJ, .long), (cQ2, .object "TaleMachine$Frame")] s := hK
  have hP : va_P D cL [(h, .inr (4, [.null, .null, .null, .null, .null, .null, .null, .int 0, .int 0])), (q1, .inl (cQ2, 8, .inr (.inr (.inr (.inr (fun _ => none))))))] H := hP
  have hD : va_D A [(h, .inr (4, [.null, .null, .null, .null, .null, .null, .null, .int 0, .int 0])), (q1, .inl (cQ2, 8, .inr (.inr (.inr (.inr (fun _ => none))))))] := hD
  refine W.widen (k := 1) (n := 8) (Nat.le_of_ble_eq_true rfl) (Nat.le_of_ble_eq_true rfl) ?_
  refine va_putF (D := D) (ci := 4) (v := .ref q1) (ty := .array (.object "TaleMachine$Frame")) (C := "TaleMachine$Teller") (T := F_Teller) (N := 9) hx hb hts in_Teller t_Teller t_Teller_ok n_Teller hown hK hP hD hS 0 rfl rfl 3 (by decide) (hts _ k_79) (fun _ h9 => h9) rfl hin rfl (by decide +kernel) rfl rfl (Nat.le_of_ble_eq_true rfl) d_Teller_init_10 (fun H locs hP hD hS => ?_)
  have hP : va_P D cL [(h, .inr (4, [.null, .null, .null, .ref q1, .null, .null, .null, .int 0, .int 0])), (q1, .inl (cQ2, 8, .inr (.inr (.inr (.inr (fun _ => none))))))] H := hP
  have hD : va_D A [(h, .inr (4, [.null, .null, .null, .ref q1, .null, .null, .null, .int 0, .int 0])), (q1, .inl (cQ2, 8, .inr (.inr (.inr (.inr (fun _ => none))))))] := hD
  refine lv_aload_n hx hb d_Teller_init_13 rfl (lv_at hl 0 rfl) ?_
  refine va_new (ci := 5) (fs := [.null, .null, .int 0]) (C := "TaleMachine$Values") (T := F_Values) (N := 3) hx hb hts in_Values t_Values t_Values_ok hown (hts _ k_80) (hts _ k_81) (hts _ k_82) hK hP hD hS hA rfl dv_Values (Nat.le_of_ble_eq_true rfl) (Nat.le_of_ble_eq_true rfl) d_Teller_init_14 (fun q3 H hP hD hS => ?_)
  have hP : va_P D cL [(h, .inr (4, [.null, .null, .null, .ref q1, .null, .null, .null, .int 0, .int 0])), (q1, .inl (cQ2, 8, .inr (.inr (.inr (.inr (fun _ => none)))))), (q3, .inr (5, [.null, .null, .int 0]))] H := hP
  have hD : va_D A [(h, .inr (4, [.null, .null, .null, .ref q1, .null, .null, .null, .int 0, .int 0])), (q1, .inl (cQ2, 8, .inr (.inr (.inr (.inr (fun _ => none)))))), (q3, .inr (5, [.null, .null, .int 0]))] := hD
  refine W.widen (k := 2) (n := 11) (Nat.le_of_ble_eq_true rfl) (Nat.le_of_ble_eq_true rfl) ?_
  refine lv_dup hx hb d_Teller_init_17 rfl ?_
  refine lv_bipush (v := 40) hx hb d_Teller_init_18 (by decide) ?_
  refine mv_v (va_runI (As := [.int 40]) (rest := [.ref q3, .ref h]) ⟨hx, hb, hml, hown, hts⟩ (c_Values_init_40 l D cI cZ cJ q3 _ ) (cwI 1 hts (gIn k_83) rfl rfl rfl (hts _ k_82) (hts _ k_84) (hts _ k_85) rfl (by decide +kernel) ⟨Nat.le_of_ble_eq_true rfl, Nat.le_of_ble_eq_true rfl⟩) (pre_S (hP.sub [2] rfl) (hK.sub [0, 1, 2] rfl) (hD.sub [2] (by decide) rfl) hT) rfl rfl hl.1 rfl (lv_room (Nat.le_of_ble_eq_true rfl)) d_Teller_init_20 ⟨Nat.le_of_ble_eq_true rfl, Nat.le_of_ble_eq_true rfl⟩) hP hD hS hA [2] [0, 1] rfl rfl (by decide) (by decide) (wr := [(h, .inr (4, [.null, .null, .null, .ref q1, .null, .null, .null, .int 0, .int 0])), (q1, .inl (cQ2, 8, .inr (.inr (.inr (.inr (fun _ => none))))))]) (wn := fun u => match u with | (vk, vi) => [(q3, .inr (5, [.ref vk, .ref vi, .int 0]))]) (fun _ _ h9 => h9) (fun u H locs hp7 hP hD hS => ?_)
  obtain ⟨a4, a5⟩ := u
  have hP : va_P D cL [(h, .inr (4, [.null, .null, .null, .ref q1, .null, .null, .null, .int 0, .int 0])), (q1, .inl (cQ2, 8, .inr (.inr (.inr (.inr (fun _ => none)))))), (q3, .inr (5, [.ref a4, .ref a5, .int 0]))] H := hP
  have hD : va_D A [(h, .inr (4, [.null, .null, .null, .ref q1, .null, .null, .null, .int 0, .int 0])), (q1, .inl (cQ2, 8, .inr (.inr (.inr (.inr (fun _ => none)))))), (q3, .inr (5, [.ref a4, .ref a5, .int 0]))] := hD
  refine W.widen (k := 4) (n := 91) (Nat.le_of_ble_eq_true rfl) (Nat.le_of_ble_eq_true rfl) ?_
  refine va_putF (D := D) (ci := 4) (v := .ref q3) (ty := .object "TaleMachine$Values") (C := "TaleMachine$Teller") (T := F_Teller) (N := 9) hx hb hts in_Teller t_Teller t_Teller_ok n_Teller hown hK hP hD hS 0 rfl rfl 4 (by decide) (hts _ k_86) (fun _ h9 => h9) rfl hin rfl (by decide +kernel) rfl rfl (Nat.le_of_ble_eq_true rfl) d_Teller_init_23 (fun H locs hP hD hS => ?_)
  have hP : va_P D cL [(h, .inr (4, [.null, .null, .null, .ref q1, .ref q3, .null, .null, .int 0, .int 0])), (q1, .inl (cQ2, 8, .inr (.inr (.inr (.inr (fun _ => none)))))), (q3, .inr (5, [.ref a4, .ref a5, .int 0]))] H := hP
  have hD : va_D A [(h, .inr (4, [.null, .null, .null, .ref q1, .ref q3, .null, .null, .int 0, .int 0])), (q1, .inl (cQ2, 8, .inr (.inr (.inr (.inr (fun _ => none)))))), (q3, .inr (5, [.ref a4, .ref a5, .int 0]))] := hD
  refine lv_aload_n hx hb d_Teller_init_26 rfl (lv_at hl 0 rfl) ?_
  refine va_new (ci := 5) (fs := [.null, .null, .int 0]) (C := "TaleMachine$Values") (T := F_Values) (N := 3) hx hb hts in_Values t_Values t_Values_ok hown (hts _ k_80) (hts _ k_81) (hts _ k_82) hK hP hD hS hA rfl dv_Values (Nat.le_of_ble_eq_true rfl) (Nat.le_of_ble_eq_true rfl) d_Teller_init_27 (fun q8 H hP hD hS => ?_)
  have hP : va_P D cL [(h, .inr (4, [.null, .null, .null, .ref q1, .ref q3, .null, .null, .int 0, .int 0])), (q1, .inl (cQ2, 8, .inr (.inr (.inr (.inr (fun _ => none)))))), (q3, .inr (5, [.ref a4, .ref a5, .int 0])), (q8, .inr (5, [.null, .null, .int 0]))] H := hP
  have hD : va_D A [(h, .inr (4, [.null, .null, .null, .ref q1, .ref q3, .null, .null, .int 0, .int 0])), (q1, .inl (cQ2, 8, .inr (.inr (.inr (.inr (fun _ => none)))))), (q3, .inr (5, [.ref a4, .ref a5, .int 0])), (q8, .inr (5, [.null, .null, .int 0]))] := hD
  refine W.widen (k := 5) (n := 94) (Nat.le_of_ble_eq_true rfl) (Nat.le_of_ble_eq_true rfl) ?_
  refine lv_dup hx hb d_Teller_init_30 rfl ?_
  refine lv_bipush (v := 50) hx hb d_Teller_init_31 (by decide) ?_
  refine mv_v (va_runI (As := [.int 50]) (rest := [.ref q8, .ref h]) ⟨hx, hb, hml, hown, hts⟩ (c_Values_init_50 l D cI cZ cJ q8 _ ) (cwI 1 hts (gIn k_83) rfl rfl rfl (hts _ k_82) (hts _ k_84) (hts _ k_85) rfl (by decide +kernel) ⟨Nat.le_of_ble_eq_true rfl, Nat.le_of_ble_eq_true rfl⟩) (pre_S (hP.sub [3] rfl) (hK.sub [0, 1, 2] rfl) (hD.sub [3] (by decide) rfl) hT) rfl rfl hl.1 rfl (lv_room (Nat.le_of_ble_eq_true rfl)) d_Teller_init_33 ⟨Nat.le_of_ble_eq_true rfl, Nat.le_of_ble_eq_true rfl⟩) hP hD hS hA [3] [0, 1, 2] rfl rfl (by decide) (by decide) (wr := [(h, .inr (4, [.null, .null, .null, .ref q1, .ref q3, .null, .null, .int 0, .int 0])), (q1, .inl (cQ2, 8, .inr (.inr (.inr (.inr (fun _ => none)))))), (q3, .inr (5, [.ref a4, .ref a5, .int 0]))]) (wn := fun u => match u with | (vk, vi) => [(q8, .inr (5, [.ref vk, .ref vi, .int 0]))]) (fun _ _ h9 => h9) (fun u H locs hp12 hP hD hS => ?_)
  obtain ⟨a9, a10⟩ := u
  have hP : va_P D cL [(h, .inr (4, [.null, .null, .null, .ref q1, .ref q3, .null, .null, .int 0, .int 0])), (q1, .inl (cQ2, 8, .inr (.inr (.inr (.inr (fun _ => none)))))), (q3, .inr (5, [.ref a4, .ref a5, .int 0])), (q8, .inr (5, [.ref a9, .ref a10, .int 0]))] H := hP
  have hD : va_D A [(h, .inr (4, [.null, .null, .null, .ref q1, .ref q3, .null, .null, .int 0, .int 0])), (q1, .inl (cQ2, 8, .inr (.inr (.inr (.inr (fun _ => none)))))), (q3, .inr (5, [.ref a4, .ref a5, .int 0])), (q8, .inr (5, [.ref a9, .ref a10, .int 0]))] := hD
  refine W.widen (k := 7) (n := 194) (Nat.le_of_ble_eq_true rfl) (Nat.le_of_ble_eq_true rfl) ?_
  refine va_putF (D := D) (ci := 4) (v := .ref q8) (ty := .object "TaleMachine$Values") (C := "TaleMachine$Teller") (T := F_Teller) (N := 9) hx hb hts in_Teller t_Teller t_Teller_ok n_Teller hown hK hP hD hS 0 rfl rfl 5 (by decide) (hts _ k_87) (fun _ h9 => h9) rfl hin rfl (by decide +kernel) rfl rfl (Nat.le_of_ble_eq_true rfl) d_Teller_init_36 (fun H locs hP hD hS => ?_)
  have hP : va_P D cL [(h, .inr (4, [.null, .null, .null, .ref q1, .ref q3, .ref q8, .null, .int 0, .int 0])), (q1, .inl (cQ2, 8, .inr (.inr (.inr (.inr (fun _ => none)))))), (q3, .inr (5, [.ref a4, .ref a5, .int 0])), (q8, .inr (5, [.ref a9, .ref a10, .int 0]))] H := hP
  have hD : va_D A [(h, .inr (4, [.null, .null, .null, .ref q1, .ref q3, .ref q8, .null, .int 0, .int 0])), (q1, .inl (cQ2, 8, .inr (.inr (.inr (.inr (fun _ => none)))))), (q3, .inr (5, [.ref a4, .ref a5, .int 0])), (q8, .inr (5, [.ref a9, .ref a10, .int 0]))] := hD
  refine lv_aload_n hx hb d_Teller_init_39 rfl (lv_at hl 0 rfl) ?_
  refine va_new (ci := 5) (fs := [.null, .null, .int 0]) (C := "TaleMachine$Values") (T := F_Values) (N := 3) hx hb hts in_Values t_Values t_Values_ok hown (hts _ k_80) (hts _ k_81) (hts _ k_82) hK hP hD hS hA rfl dv_Values (Nat.le_of_ble_eq_true rfl) (Nat.le_of_ble_eq_true rfl) d_Teller_init_40 (fun q13 H hP hD hS => ?_)
  have hP : va_P D cL [(h, .inr (4, [.null, .null, .null, .ref q1, .ref q3, .ref q8, .null, .int 0, .int 0])), (q1, .inl (cQ2, 8, .inr (.inr (.inr (.inr (fun _ => none)))))), (q3, .inr (5, [.ref a4, .ref a5, .int 0])), (q8, .inr (5, [.ref a9, .ref a10, .int 0])), (q13, .inr (5, [.null, .null, .int 0]))] H := hP
  have hD : va_D A [(h, .inr (4, [.null, .null, .null, .ref q1, .ref q3, .ref q8, .null, .int 0, .int 0])), (q1, .inl (cQ2, 8, .inr (.inr (.inr (.inr (fun _ => none)))))), (q3, .inr (5, [.ref a4, .ref a5, .int 0])), (q8, .inr (5, [.ref a9, .ref a10, .int 0])), (q13, .inr (5, [.null, .null, .int 0]))] := hD
  refine W.widen (k := 8) (n := 197) (Nat.le_of_ble_eq_true rfl) (Nat.le_of_ble_eq_true rfl) ?_
  refine lv_dup hx hb d_Teller_init_43 rfl ?_
  refine lv_iconst (v := 1) hx hb d_Teller_init_44 (by decide) ?_
  refine mv_v (va_runI (As := [.int 1]) (rest := [.ref q13, .ref h]) ⟨hx, hb, hml, hown, hts⟩ (c_Values_init_1 l D cI cZ cJ q13 _ ) (cwI 1 hts (gIn k_83) rfl rfl rfl (hts _ k_82) (hts _ k_84) (hts _ k_85) rfl (by decide +kernel) ⟨Nat.le_of_ble_eq_true rfl, Nat.le_of_ble_eq_true rfl⟩) (pre_S (hP.sub [4] rfl) (hK.sub [0, 1, 2] rfl) (hD.sub [4] (by decide) rfl) hT) rfl rfl hl.1 rfl (lv_room (Nat.le_of_ble_eq_true rfl)) d_Teller_init_45 ⟨Nat.le_of_ble_eq_true rfl, Nat.le_of_ble_eq_true rfl⟩) hP hD hS hA [4] [0, 1, 2, 3] rfl rfl (by decide) (by decide) (wr := [(h, .inr (4, [.null, .null, .null, .ref q1, .ref q3, .ref q8, .null, .int 0, .int 0])), (q1, .inl (cQ2, 8, .inr (.inr (.inr (.inr (fun _ => none)))))), (q3, .inr (5, [.ref a4, .ref a5, .int 0])), (q8, .inr (5, [.ref a9, .ref a10, .int 0]))]) (wn := fun u => match u with | (vk, vi) => [(q13, .inr (5, [.ref vk, .ref vi, .int 0]))]) (fun _ _ h9 => h9) (fun u H locs hp17 hP hD hS => ?_)
  obtain ⟨a14, a15⟩ := u
  have hP : va_P D cL [(h, .inr (4, [.null, .null, .null, .ref q1, .ref q3, .ref q8, .null, .int 0, .int 0])), (q1, .inl (cQ2, 8, .inr (.inr (.inr (.inr (fun _ => none)))))), (q3, .inr (5, [.ref a4, .ref a5, .int 0])), (q8, .inr (5, [.ref a9, .ref a10, .int 0])), (q13, .inr (5, [.ref a14, .ref a15, .int 0]))] H := hP
  have hD : va_D A [(h, .inr (4, [.null, .null, .null, .ref q1, .ref q3, .ref q8, .null, .int 0, .int 0])), (q1, .inl (cQ2, 8, .inr (.inr (.inr (.inr (fun _ => none)))))), (q3, .inr (5, [.ref a4, .ref a5, .int 0])), (q8, .inr (5, [.ref a9, .ref a10, .int 0])), (q13, .inr (5, [.ref a14, .ref a15, .int 0]))] := hD
  refine W.widen (k := 10) (n := 199) (Nat.le_of_ble_eq_true rfl) (Nat.le_of_ble_eq_true rfl) ?_
  refine va_putF (D := D) (ci := 4) (v := .ref q13) (ty := .object "TaleMachine$Values") (C := "TaleMachine$Teller") (T := F_Teller) (N := 9) hx hb hts in_Teller t_Teller t_Teller_ok n_Teller hown hK hP hD hS 0 rfl rfl 6 (by decide) (hts _ k_88) (fun _ h9 => h9) rfl hin rfl (by decide +kernel) rfl rfl (Nat.le_of_ble_eq_true rfl) d_Teller_init_48 (fun H locs hP hD hS => ?_)
  have hP : va_P D cL [(h, .inr (4, [.null, .null, .null, .ref q1, .ref q3, .ref q8, .ref q13, .int 0, .int 0])), (q1, .inl (cQ2, 8, .inr (.inr (.inr (.inr (fun _ => none)))))), (q3, .inr (5, [.ref a4, .ref a5, .int 0])), (q8, .inr (5, [.ref a9, .ref a10, .int 0])), (q13, .inr (5, [.ref a14, .ref a15, .int 0]))] H := hP
  have hD : va_D A [(h, .inr (4, [.null, .null, .null, .ref q1, .ref q3, .ref q8, .ref q13, .int 0, .int 0])), (q1, .inl (cQ2, 8, .inr (.inr (.inr (.inr (fun _ => none)))))), (q3, .inr (5, [.ref a4, .ref a5, .int 0])), (q8, .inr (5, [.ref a9, .ref a10, .int 0])), (q13, .inr (5, [.ref a14, .ref a15, .int 0]))] := hD
  refine lv_aload_n hx hb d_Teller_init_51 rfl (lv_at hl 0 rfl) ?_
  refine lv_iconst (v := (-1)) hx hb d_Teller_init_52 (by decide) ?_
  refine va_put (D := D) (ci := 4) (v := .int (-1)) (ty := .int) (C := "TaleMachine$Teller") (T := F_Teller) (N := 9) hx hb hts in_Teller t_Teller t_Teller_ok n_Teller hown hK hP hD hS 0 rfl rfl 8 (by decide) (hts _ k_89) (fun _ h9 => h9) rfl (by decide +kernel) rfl rfl (Nat.le_of_ble_eq_true rfl) d_Teller_init_53 (fun H locs hP hD hS => ?_)
  have hP : va_P D cL [(h, .inr (4, [.null, .null, .null, .ref q1, .ref q3, .ref q8, .ref q13, .int 0, .int (-1)])), (q1, .inl (cQ2, 8, .inr (.inr (.inr (.inr (fun _ => none)))))), (q3, .inr (5, [.ref a4, .ref a5, .int 0])), (q8, .inr (5, [.ref a9, .ref a10, .int 0])), (q13, .inr (5, [.ref a14, .ref a15, .int 0]))] H := hP
  have hD : va_D A [(h, .inr (4, [.null, .null, .null, .ref q1, .ref q3, .ref q8, .ref q13, .int 0, .int (-1)])), (q1, .inl (cQ2, 8, .inr (.inr (.inr (.inr (fun _ => none)))))), (q3, .inr (5, [.ref a4, .ref a5, .int 0])), (q8, .inr (5, [.ref a9, .ref a10, .int 0])), (q13, .inr (5, [.ref a14, .ref a15, .int 0]))] := hD
  refine lv_aload_n hx hb d_Teller_init_56 rfl (lv_at hl 0 rfl) ?_
  refine lv_aload_n hx hb d_Teller_init_57 rfl (lv_at hl 1 rfl) ?_
  refine va_putF (D := D) (ci := 4) (v := .ref sc) (ty := .object "TaleMachine$Script") (C := "TaleMachine$Teller") (T := F_Teller) (N := 9) hx hb hts in_Teller t_Teller t_Teller_ok n_Teller hown hK hP hD hS 0 rfl rfl 0 (by decide) (hts _ k_90) (fun _ h9 => h9) rfl hin rfl (by decide +kernel) rfl rfl (Nat.le_of_ble_eq_true rfl) d_Teller_init_58 (fun H locs hP hD hS => ?_)
  have hP : va_P D cL [(h, .inr (4, [.ref sc, .null, .null, .ref q1, .ref q3, .ref q8, .ref q13, .int 0, .int (-1)])), (q1, .inl (cQ2, 8, .inr (.inr (.inr (.inr (fun _ => none)))))), (q3, .inr (5, [.ref a4, .ref a5, .int 0])), (q8, .inr (5, [.ref a9, .ref a10, .int 0])), (q13, .inr (5, [.ref a14, .ref a15, .int 0]))] H := hP
  have hD : va_D A [(h, .inr (4, [.ref sc, .null, .null, .ref q1, .ref q3, .ref q8, .ref q13, .int 0, .int (-1)])), (q1, .inl (cQ2, 8, .inr (.inr (.inr (.inr (fun _ => none)))))), (q3, .inr (5, [.ref a4, .ref a5, .int 0])), (q8, .inr (5, [.ref a9, .ref a10, .int 0])), (q13, .inr (5, [.ref a14, .ref a15, .int 0]))] := hD
  refine lv_aload_n hx hb d_Teller_init_61 rfl (lv_at hl 0 rfl) ?_
  refine lv_aload_n hx hb d_Teller_init_62 rfl (lv_at hl 2 rfl) ?_
  refine va_putF (D := D) (ci := 4) (v := .ref wo) (ty := .object "TaleMachine$World") (C := "TaleMachine$Teller") (T := F_Teller) (N := 9) hx hb hts in_Teller t_Teller t_Teller_ok n_Teller hown hK hP hD hS 0 rfl rfl 1 (by decide) (hts _ k_91) (fun _ h9 => h9) rfl hin rfl (by decide +kernel) rfl rfl (Nat.le_of_ble_eq_true rfl) d_Teller_init_63 (fun H locs hP hD hS => ?_)
  have hP : va_P D cL [(h, .inr (4, [.ref sc, .ref wo, .null, .ref q1, .ref q3, .ref q8, .ref q13, .int 0, .int (-1)])), (q1, .inl (cQ2, 8, .inr (.inr (.inr (.inr (fun _ => none)))))), (q3, .inr (5, [.ref a4, .ref a5, .int 0])), (q8, .inr (5, [.ref a9, .ref a10, .int 0])), (q13, .inr (5, [.ref a14, .ref a15, .int 0]))] H := hP
  have hD : va_D A [(h, .inr (4, [.ref sc, .ref wo, .null, .ref q1, .ref q3, .ref q8, .ref q13, .int 0, .int (-1)])), (q1, .inl (cQ2, 8, .inr (.inr (.inr (.inr (fun _ => none)))))), (q3, .inr (5, [.ref a4, .ref a5, .int 0])), (q8, .inr (5, [.ref a9, .ref a10, .int 0])), (q13, .inr (5, [.ref a14, .ref a15, .int 0]))] := hD
  refine lv_aload_n hx hb d_Teller_init_66 rfl (lv_at hl 0 rfl) ?_
  refine lv_aload_n hx hb d_Teller_init_67 rfl (lv_at hl 3 rfl) ?_
  refine va_putF (D := D) (ci := 4) (v := .ref hi) (ty := .object "TaleMachine$History") (C := "TaleMachine$Teller") (T := F_Teller) (N := 9) hx hb hts in_Teller t_Teller t_Teller_ok n_Teller hown hK hP hD hS 0 rfl rfl 2 (by decide) (hts _ k_92) (fun _ h9 => h9) rfl hin rfl (by decide +kernel) rfl rfl (Nat.le_of_ble_eq_true rfl) d_Teller_init_68 (fun H locs hP hD hS => ?_)
  have hP : va_P D cL [(h, .inr (4, [.ref sc, .ref wo, .ref hi, .ref q1, .ref q3, .ref q8, .ref q13, .int 0, .int (-1)])), (q1, .inl (cQ2, 8, .inr (.inr (.inr (.inr (fun _ => none)))))), (q3, .inr (5, [.ref a4, .ref a5, .int 0])), (q8, .inr (5, [.ref a9, .ref a10, .int 0])), (q13, .inr (5, [.ref a14, .ref a15, .int 0]))] H := hP
  have hD : va_D A [(h, .inr (4, [.ref sc, .ref wo, .ref hi, .ref q1, .ref q3, .ref q8, .ref q13, .int 0, .int (-1)])), (q1, .inl (cQ2, 8, .inr (.inr (.inr (.inr (fun _ => none)))))), (q3, .inr (5, [.ref a4, .ref a5, .int 0])), (q8, .inr (5, [.ref a9, .ref a10, .int 0])), (q13, .inr (5, [.ref a14, .ref a15, .int 0]))] := hD
  refine lv_iconst (v := 0) hx hb d_Teller_init_71 (by decide) ?_
  refine lv_istore (lv' := [(4, .int 0), (0, .ref h), (1, .ref sc), (2, .ref wo), (3, .ref hi)]) hx hb d_Teller_init_72 hl (by decide) rfl (fun ls hl => ?_)
  refine lv_iload hx hb d_Teller_init_74 (lv_at hl 0 rfl) ?_
  refine lv_bipush (v := 8) hx hb d_Teller_init_76 (by decide) ?_
  refine lv_icmp_ge hx hb d_Teller_init_78 (tgt := 101) (by decide) (fun hz => absurd hz (by decide)) (fun _ => ?_)
  refine lv_aload_n hx hb d_Teller_init_81 rfl (lv_at hl 1 rfl) ?_
  refine va_get (D := D) (ci := 4) (v := .ref q1) (C := "TaleMachine$Teller") (T := F_Teller) (N := 9) hx hb hts in_Teller hown hK hP 0 rfl rfl 3 (by decide) (hts _ k_79) (fun _ h9 => h9) rfl d_Teller_init_82 ?_
  refine lv_iload hx hb d_Teller_init_85 (lv_at hl 0 rfl) ?_
  refine va_new (ci := 0) (fs := [.int 0, .int 0, .int 0, .int 0, .int 0, .int 0, .int 0, .int 0]) (C := "TaleMachine$Frame") (T := F_Frame) (N := 8) hx hb hts in_Frame t_Frame t_Frame_ok hown (hts _ k_78) (hts _ k_93) (hts _ k_94) hK hP hD hS hA rfl dv_Frame (Nat.le_of_ble_eq_true rfl) (Nat.le_of_ble_eq_true rfl) d_Teller_init_87 (fun q18 H hP hD hS => ?_)
  have hP : va_P D cL [(h, .inr (4, [.ref sc, .ref wo, .ref hi, .ref q1, .ref q3, .ref q8, .ref q13, .int 0, .int (-1)])), (q1, .inl (cQ2, 8, .inr (.inr (.inr (.inr (fun _ => none)))))), (q3, .inr (5, [.ref a4, .ref a5, .int 0])), (q8, .inr (5, [.ref a9, .ref a10, .int 0])), (q13, .inr (5, [.ref a14, .ref a15, .int 0])), (q18, .inr (0, [.int 0, .int 0, .int 0, .int 0, .int 0, .int 0, .int 0, .int 0]))] H := hP
  have hD : va_D A [(h, .inr (4, [.ref sc, .ref wo, .ref hi, .ref q1, .ref q3, .ref q8, .ref q13, .int 0, .int (-1)])), (q1, .inl (cQ2, 8, .inr (.inr (.inr (.inr (fun _ => none)))))), (q3, .inr (5, [.ref a4, .ref a5, .int 0])), (q8, .inr (5, [.ref a9, .ref a10, .int 0])), (q13, .inr (5, [.ref a14, .ref a15, .int 0])), (q18, .inr (0, [.int 0, .int 0, .int 0, .int 0, .int 0, .int 0, .int 0, .int 0]))] := hD
  refine W.widen (k := 11) (n := 207) (Nat.le_of_ble_eq_true rfl) (Nat.le_of_ble_eq_true rfl) ?_
  refine lv_dup hx hb d_Teller_init_90 rfl ?_
  refine mv_v (va_runIN (As := []) (rest := [.ref q18, .int 0, .ref q1]) ⟨hx, hb, hml, hown, hts⟩ (c_Frame_init l D cI cZ cJ q18 _ ) ⟨va_cnB 0 hts (gIn k_95) rfl rfl rfl (Tb_nest_Frame hT) (hts _ k_94) (by decide +kernel) ⟨Nat.le_of_ble_eq_true rfl, Nat.le_of_ble_eq_true rfl⟩, rfl, hts _ k_96⟩ (pre_S (hP.sub [5] rfl) (hK.sub [0, 1, 2] rfl) (hD.sub [5] (by decide) rfl) hT) rfl rfl hl.1 rfl (lv_room (Nat.le_of_ble_eq_true rfl)) d_Teller_init_91 ⟨Nat.le_of_ble_eq_true rfl, Nat.le_of_ble_eq_true rfl⟩) hP hD hS hA [5] [0, 1, 2, 3, 4] rfl rfl (by decide) (by decide) (wr := [(h, .inr (4, [.ref sc, .ref wo, .ref hi, .ref q1, .ref q3, .ref q8, .ref q13, .int 0, .int (-1)])), (q1, .inl (cQ2, 8, .inr (.inr (.inr (.inr (fun _ => none)))))), (q3, .inr (5, [.ref a4, .ref a5, .int 0])), (q8, .inr (5, [.ref a9, .ref a10, .int 0])), (q13, .inr (5, [.ref a14, .ref a15, .int 0]))]) (wn := fun _ => [(q18, .inr (0, [.int 0, .int 0, .int 0, .int 0, .int 0, .int 0, .int 0, .int 0]))]) (fun _ _ h9 => h9) (fun _ H locs hp20 hP hD hS => ?_)
  have hP : va_P D cL [(h, .inr (4, [.ref sc, .ref wo, .ref hi, .ref q1, .ref q3, .ref q8, .ref q13, .int 0, .int (-1)])), (q1, .inl (cQ2, 8, .inr (.inr (.inr (.inr (fun _ => none)))))), (q3, .inr (5, [.ref a4, .ref a5, .int 0])), (q8, .inr (5, [.ref a9, .ref a10, .int 0])), (q13, .inr (5, [.ref a14, .ref a15, .int 0])), (q18, .inr (0, [.int 0, .int 0, .int 0, .int 0, .int 0, .int 0, .int 0, .int 0]))] H := hP
  have hD : va_D A [(h, .inr (4, [.ref sc, .ref wo, .ref hi, .ref q1, .ref q3, .ref q8, .ref q13, .int 0, .int (-1)])), (q1, .inl (cQ2, 8, .inr (.inr (.inr (.inr (fun _ => none)))))), (q3, .inr (5, [.ref a4, .ref a5, .int 0])), (q8, .inr (5, [.ref a9, .ref a10, .int 0])), (q13, .inr (5, [.ref a14, .ref a15, .int 0])), (q18, .inr (0, [.int 0, .int 0, .int 0, .int 0, .int 0, .int 0, .int 0, .int 0]))] := hD
  refine va_astq (r := ("TaleMachine$Frame", F_Frame, 8)) hx hb hK hP hD hS 1 3 5 0 rfl rfl rfl rfl (i := 0) (in_c (by decide)) d_Teller_init_94 (fun H locs hP hD hS => ?_)
  have hP : va_P D cL [(h, .inr (4, [.ref sc, .ref wo, .ref hi, .ref q1, .ref q3, .ref q8, .ref q13, .int 0, .int (-1)])), (q1, .inl (cQ2, 8, .inr (.inr (.inr (.inr (va_up (fun _ => none) (0 : Int32).toNatClampNeg (some q18))))))), (q3, .inr (5, [.ref a4, .ref a5, .int 0])), (q8, .inr (5, [.ref a9, .ref a10, .int 0])), (q13, .inr (5, [.ref a14, .ref a15, .int 0])), (q18, .inr (0, [.int 0, .int 0, .int 0, .int 0, .int 0, .int 0, .int 0, .int 0]))] H := hP
  have hD : va_D A [(h, .inr (4, [.ref sc, .ref wo, .ref hi, .ref q1, .ref q3, .ref q8, .ref q13, .int 0, .int (-1)])), (q1, .inl (cQ2, 8, .inr (.inr (.inr (.inr (va_up (fun _ => none) (0 : Int32).toNatClampNeg (some q18))))))), (q3, .inr (5, [.ref a4, .ref a5, .int 0])), (q8, .inr (5, [.ref a9, .ref a10, .int 0])), (q13, .inr (5, [.ref a14, .ref a15, .int 0])), (q18, .inr (0, [.int 0, .int 0, .int 0, .int 0, .int 0, .int 0, .int 0, .int 0]))] := hD
  generalize va_up (fun _ => none) (0 : Int32).toNatClampNeg (some q18) = f21 at hP hD
  have hP := hP.sub (ws' := [(h, .inr (4, [.ref sc, .ref wo, .ref hi, .ref q1, .ref q3, .ref q8, .ref q13, .int 0, .int (-1)])), (q1, .inl (cQ2, 8, .inr (.inr (.inr (.inr f21))))), (q3, .inr (5, [.ref a4, .ref a5, .int 0])), (q8, .inr (5, [.ref a9, .ref a10, .int 0])), (q13, .inr (5, [.ref a14, .ref a15, .int 0]))]) [0, 1, 2, 3, 4] rfl
  have hD := hD.sub (ws' := [(h, .inr (4, [.ref sc, .ref wo, .ref hi, .ref q1, .ref q3, .ref q8, .ref q13, .int 0, .int (-1)])), (q1, .inl (cQ2, 8, .inr (.inr (.inr (.inr f21))))), (q3, .inr (5, [.ref a4, .ref a5, .int 0])), (q8, .inr (5, [.ref a9, .ref a10, .int 0])), (q13, .inr (5, [.ref a14, .ref a15, .int 0]))]) [0, 1, 2, 3, 4] (by decide) rfl
  refine lv_iinc (v := 1) (lv' := [(4, .int 1), (0, .ref h), (1, .ref sc), (2, .ref wo), (3, .ref hi)]) hx hb d_Teller_init_95 hl (k := 0) rfl (by decide) (by decide) rfl (fun ls hl => ?_)
  refine lv_goto hx hb d_Teller_init_98 (tgt := 74) (by decide) ?_
  refine lv_iload hx hb d_Teller_init_74 (lv_at hl 0 rfl) ?_
  refine lv_bipush (v := 8) hx hb d_Teller_init_76 (by decide) ?_
  refine lv_icmp_ge hx hb d_Teller_init_78 (tgt := 101) (by decide) (fun hz => absurd hz (by decide)) (fun _ => ?_)
  refine lv_aload_n hx hb d_Teller_init_81 rfl (lv_at hl 1 rfl) ?_
  refine va_get (D := D) (ci := 4) (v := .ref q1) (C := "TaleMachine$Teller") (T := F_Teller) (N := 9) hx hb hts in_Teller hown hK hP 0 rfl rfl 3 (by decide) (hts _ k_79) (fun _ h9 => h9) rfl d_Teller_init_82 ?_
  refine lv_iload hx hb d_Teller_init_85 (lv_at hl 0 rfl) ?_
  refine va_new (ci := 0) (fs := [.int 0, .int 0, .int 0, .int 0, .int 0, .int 0, .int 0, .int 0]) (C := "TaleMachine$Frame") (T := F_Frame) (N := 8) hx hb hts in_Frame t_Frame t_Frame_ok hown (hts _ k_78) (hts _ k_93) (hts _ k_94) hK hP hD hS hA rfl dv_Frame (Nat.le_of_ble_eq_true rfl) (Nat.le_of_ble_eq_true rfl) d_Teller_init_87 (fun q22 H hP hD hS => ?_)
  have hP : va_P D cL [(h, .inr (4, [.ref sc, .ref wo, .ref hi, .ref q1, .ref q3, .ref q8, .ref q13, .int 0, .int (-1)])), (q1, .inl (cQ2, 8, .inr (.inr (.inr (.inr f21))))), (q3, .inr (5, [.ref a4, .ref a5, .int 0])), (q8, .inr (5, [.ref a9, .ref a10, .int 0])), (q13, .inr (5, [.ref a14, .ref a15, .int 0])), (q22, .inr (0, [.int 0, .int 0, .int 0, .int 0, .int 0, .int 0, .int 0, .int 0]))] H := hP
  have hD : va_D A [(h, .inr (4, [.ref sc, .ref wo, .ref hi, .ref q1, .ref q3, .ref q8, .ref q13, .int 0, .int (-1)])), (q1, .inl (cQ2, 8, .inr (.inr (.inr (.inr f21))))), (q3, .inr (5, [.ref a4, .ref a5, .int 0])), (q8, .inr (5, [.ref a9, .ref a10, .int 0])), (q13, .inr (5, [.ref a14, .ref a15, .int 0])), (q22, .inr (0, [.int 0, .int 0, .int 0, .int 0, .int 0, .int 0, .int 0, .int 0]))] := hD
  refine W.widen (k := 12) (n := 215) (Nat.le_of_ble_eq_true rfl) (Nat.le_of_ble_eq_true rfl) ?_
  refine lv_dup hx hb d_Teller_init_90 rfl ?_
  refine mv_v (va_runIN (As := []) (rest := [.ref q22, .int 1, .ref q1]) ⟨hx, hb, hml, hown, hts⟩ (c_Frame_init l D cI cZ cJ q22 _ ) ⟨va_cnB 0 hts (gIn k_95) rfl rfl rfl (Tb_nest_Frame hT) (hts _ k_94) (by decide +kernel) ⟨Nat.le_of_ble_eq_true rfl, Nat.le_of_ble_eq_true rfl⟩, rfl, hts _ k_96⟩ (pre_S (hP.sub [5] rfl) (hK.sub [0, 1, 2] rfl) (hD.sub [5] (by decide) rfl) hT) rfl rfl hl.1 rfl (lv_room (Nat.le_of_ble_eq_true rfl)) d_Teller_init_91 ⟨Nat.le_of_ble_eq_true rfl, Nat.le_of_ble_eq_true rfl⟩) hP hD hS hA [5] [0, 1, 2, 3, 4] rfl rfl (by decide) (by decide) (wr := [(h, .inr (4, [.ref sc, .ref wo, .ref hi, .ref q1, .ref q3, .ref q8, .ref q13, .int 0, .int (-1)])), (q1, .inl (cQ2, 8, .inr (.inr (.inr (.inr f21))))), (q3, .inr (5, [.ref a4, .ref a5, .int 0])), (q8, .inr (5, [.ref a9, .ref a10, .int 0])), (q13, .inr (5, [.ref a14, .ref a15, .int 0]))]) (wn := fun _ => [(q22, .inr (0, [.int 0, .int 0, .int 0, .int 0, .int 0, .int 0, .int 0, .int 0]))]) (fun _ _ h9 => h9) (fun _ H locs hp24 hP hD hS => ?_)
  have hP : va_P D cL [(h, .inr (4, [.ref sc, .ref wo, .ref hi, .ref q1, .ref q3, .ref q8, .ref q13, .int 0, .int (-1)])), (q1, .inl (cQ2, 8, .inr (.inr (.inr (.inr f21))))), (q3, .inr (5, [.ref a4, .ref a5, .int 0])), (q8, .inr (5, [.ref a9, .ref a10, .int 0])), (q13, .inr (5, [.ref a14, .ref a15, .int 0])), (q22, .inr (0, [.int 0, .int 0, .int 0, .int 0, .int 0, .int 0, .int 0, .int 0]))] H := hP
  have hD : va_D A [(h, .inr (4, [.ref sc, .ref wo, .ref hi, .ref q1, .ref q3, .ref q8, .ref q13, .int 0, .int (-1)])), (q1, .inl (cQ2, 8, .inr (.inr (.inr (.inr f21))))), (q3, .inr (5, [.ref a4, .ref a5, .int 0])), (q8, .inr (5, [.ref a9, .ref a10, .int 0])), (q13, .inr (5, [.ref a14, .ref a15, .int 0])), (q22, .inr (0, [.int 0, .int 0, .int 0, .int 0, .int 0, .int 0, .int 0, .int 0]))] := hD
  refine va_astq (r := ("TaleMachine$Frame", F_Frame, 8)) hx hb hK hP hD hS 1 3 5 0 rfl rfl rfl rfl (i := 1) (in_c (by decide)) d_Teller_init_94 (fun H locs hP hD hS => ?_)
  have hP : va_P D cL [(h, .inr (4, [.ref sc, .ref wo, .ref hi, .ref q1, .ref q3, .ref q8, .ref q13, .int 0, .int (-1)])), (q1, .inl (cQ2, 8, .inr (.inr (.inr (.inr (va_up f21 (1 : Int32).toNatClampNeg (some q22))))))), (q3, .inr (5, [.ref a4, .ref a5, .int 0])), (q8, .inr (5, [.ref a9, .ref a10, .int 0])), (q13, .inr (5, [.ref a14, .ref a15, .int 0])), (q22, .inr (0, [.int 0, .int 0, .int 0, .int 0, .int 0, .int 0, .int 0, .int 0]))] H := hP
  have hD : va_D A [(h, .inr (4, [.ref sc, .ref wo, .ref hi, .ref q1, .ref q3, .ref q8, .ref q13, .int 0, .int (-1)])), (q1, .inl (cQ2, 8, .inr (.inr (.inr (.inr (va_up f21 (1 : Int32).toNatClampNeg (some q22))))))), (q3, .inr (5, [.ref a4, .ref a5, .int 0])), (q8, .inr (5, [.ref a9, .ref a10, .int 0])), (q13, .inr (5, [.ref a14, .ref a15, .int 0])), (q22, .inr (0, [.int 0, .int 0, .int 0, .int 0, .int 0, .int 0, .int 0, .int 0]))] := hD
  generalize va_up f21 (1 : Int32).toNatClampNeg (some q22) = f25 at hP hD
  have hP := hP.sub (ws' := [(h, .inr (4, [.ref sc, .ref wo, .ref hi, .ref q1, .ref q3, .ref q8, .ref q13, .int 0, .int (-1)])), (q1, .inl (cQ2, 8, .inr (.inr (.inr (.inr f25))))), (q3, .inr (5, [.ref a4, .ref a5, .int 0])), (q8, .inr (5, [.ref a9, .ref a10, .int 0])), (q13, .inr (5, [.ref a14, .ref a15, .int 0]))]) [0, 1, 2, 3, 4] rfl
  have hD := hD.sub (ws' := [(h, .inr (4, [.ref sc, .ref wo, .ref hi, .ref q1, .ref q3, .ref q8, .ref q13, .int 0, .int (-1)])), (q1, .inl (cQ2, 8, .inr (.inr (.inr (.inr f25))))), (q3, .inr (5, [.ref a4, .ref a5, .int 0])), (q8, .inr (5, [.ref a9, .ref a10, .int 0])), (q13, .inr (5, [.ref a14, .ref a15, .int 0]))]) [0, 1, 2, 3, 4] (by decide) rfl
  refine lv_iinc (v := 2) (lv' := [(4, .int 2), (0, .ref h), (1, .ref sc), (2, .ref wo), (3, .ref hi)]) hx hb d_Teller_init_95 hl (k := 0) rfl (by decide) (by decide) rfl (fun ls hl => ?_)
  refine lv_goto hx hb d_Teller_init_98 (tgt := 74) (by decide) ?_
  refine lv_iload hx hb d_Teller_init_74 (lv_at hl 0 rfl) ?_
  refine lv_bipush (v := 8) hx hb d_Teller_init_76 (by decide) ?_
  refine lv_icmp_ge hx hb d_Teller_init_78 (tgt := 101) (by decide) (fun hz => absurd hz (by decide)) (fun _ => ?_)
  refine lv_aload_n hx hb d_Teller_init_81 rfl (lv_at hl 1 rfl) ?_
  refine va_get (D := D) (ci := 4) (v := .ref q1) (C := "TaleMachine$Teller") (T := F_Teller) (N := 9) hx hb hts in_Teller hown hK hP 0 rfl rfl 3 (by decide) (hts _ k_79) (fun _ h9 => h9) rfl d_Teller_init_82 ?_
  refine lv_iload hx hb d_Teller_init_85 (lv_at hl 0 rfl) ?_
  refine va_new (ci := 0) (fs := [.int 0, .int 0, .int 0, .int 0, .int 0, .int 0, .int 0, .int 0]) (C := "TaleMachine$Frame") (T := F_Frame) (N := 8) hx hb hts in_Frame t_Frame t_Frame_ok hown (hts _ k_78) (hts _ k_93) (hts _ k_94) hK hP hD hS hA rfl dv_Frame (Nat.le_of_ble_eq_true rfl) (Nat.le_of_ble_eq_true rfl) d_Teller_init_87 (fun q26 H hP hD hS => ?_)
  have hP : va_P D cL [(h, .inr (4, [.ref sc, .ref wo, .ref hi, .ref q1, .ref q3, .ref q8, .ref q13, .int 0, .int (-1)])), (q1, .inl (cQ2, 8, .inr (.inr (.inr (.inr f25))))), (q3, .inr (5, [.ref a4, .ref a5, .int 0])), (q8, .inr (5, [.ref a9, .ref a10, .int 0])), (q13, .inr (5, [.ref a14, .ref a15, .int 0])), (q26, .inr (0, [.int 0, .int 0, .int 0, .int 0, .int 0, .int 0, .int 0, .int 0]))] H := hP
  have hD : va_D A [(h, .inr (4, [.ref sc, .ref wo, .ref hi, .ref q1, .ref q3, .ref q8, .ref q13, .int 0, .int (-1)])), (q1, .inl (cQ2, 8, .inr (.inr (.inr (.inr f25))))), (q3, .inr (5, [.ref a4, .ref a5, .int 0])), (q8, .inr (5, [.ref a9, .ref a10, .int 0])), (q13, .inr (5, [.ref a14, .ref a15, .int 0])), (q26, .inr (0, [.int 0, .int 0, .int 0, .int 0, .int 0, .int 0, .int 0, .int 0]))] := hD
  refine W.widen (k := 13) (n := 223) (Nat.le_of_ble_eq_true rfl) (Nat.le_of_ble_eq_true rfl) ?_
  refine lv_dup hx hb d_Teller_init_90 rfl ?_
  refine mv_v (va_runIN (As := []) (rest := [.ref q26, .int 2, .ref q1]) ⟨hx, hb, hml, hown, hts⟩ (c_Frame_init l D cI cZ cJ q26 _ ) ⟨va_cnB 0 hts (gIn k_95) rfl rfl rfl (Tb_nest_Frame hT) (hts _ k_94) (by decide +kernel) ⟨Nat.le_of_ble_eq_true rfl, Nat.le_of_ble_eq_true rfl⟩, rfl, hts _ k_96⟩ (pre_S (hP.sub [5] rfl) (hK.sub [0, 1, 2] rfl) (hD.sub [5] (by decide) rfl) hT) rfl rfl hl.1 rfl (lv_room (Nat.le_of_ble_eq_true rfl)) d_Teller_init_91 ⟨Nat.le_of_ble_eq_true rfl, Nat.le_of_ble_eq_true rfl⟩) hP hD hS hA [5] [0, 1, 2, 3, 4] rfl rfl (by decide) (by decide) (wr := [(h, .inr (4, [.ref sc, .ref wo, .ref hi, .ref q1, .ref q3, .ref q8, .ref q13, .int 0, .int (-1)])), (q1, .inl (cQ2, 8, .inr (.inr (.inr (.inr f25))))), (q3, .inr (5, [.ref a4, .ref a5, .int 0])), (q8, .inr (5, [.ref a9, .ref a10, .int 0])), (q13, .inr (5, [.ref a14, .ref a15, .int 0]))]) (wn := fun _ => [(q26, .inr (0, [.int 0, .int 0, .int 0, .int 0, .int 0, .int 0, .int 0, .int 0]))]) (fun _ _ h9 => h9) (fun _ H locs hp28 hP hD hS => ?_)
  have hP : va_P D cL [(h, .inr (4, [.ref sc, .ref wo, .ref hi, .ref q1, .ref q3, .ref q8, .ref q13, .int 0, .int (-1)])), (q1, .inl (cQ2, 8, .inr (.inr (.inr (.inr f25))))), (q3, .inr (5, [.ref a4, .ref a5, .int 0])), (q8, .inr (5, [.ref a9, .ref a10, .int 0])), (q13, .inr (5, [.ref a14, .ref a15, .int 0])), (q26, .inr (0, [.int 0, .int 0, .int 0, .int 0, .int 0, .int 0, .int 0, .int 0]))] H := hP
  have hD : va_D A [(h, .inr (4, [.ref sc, .ref wo, .ref hi, .ref q1, .ref q3, .ref q8, .ref q13, .int 0, .int (-1)])), (q1, .inl (cQ2, 8, .inr (.inr (.inr (.inr f25))))), (q3, .inr (5, [.ref a4, .ref a5, .int 0])), (q8, .inr (5, [.ref a9, .ref a10, .int 0])), (q13, .inr (5, [.ref a14, .ref a15, .int 0])), (q26, .inr (0, [.int 0, .int 0, .int 0, .int 0, .int 0, .int 0, .int 0, .int 0]))] := hD
  refine va_astq (r := ("TaleMachine$Frame", F_Frame, 8)) hx hb hK hP hD hS 1 3 5 0 rfl rfl rfl rfl (i := 2) (in_c (by decide)) d_Teller_init_94 (fun H locs hP hD hS => ?_)
  have hP : va_P D cL [(h, .inr (4, [.ref sc, .ref wo, .ref hi, .ref q1, .ref q3, .ref q8, .ref q13, .int 0, .int (-1)])), (q1, .inl (cQ2, 8, .inr (.inr (.inr (.inr (va_up f25 (2 : Int32).toNatClampNeg (some q26))))))), (q3, .inr (5, [.ref a4, .ref a5, .int 0])), (q8, .inr (5, [.ref a9, .ref a10, .int 0])), (q13, .inr (5, [.ref a14, .ref a15, .int 0])), (q26, .inr (0, [.int 0, .int 0, .int 0, .int 0, .int 0, .int 0, .int 0, .int 0]))] H := hP
  have hD : va_D A [(h, .inr (4, [.ref sc, .ref wo, .ref hi, .ref q1, .ref q3, .ref q8, .ref q13, .int 0, .int (-1)])), (q1, .inl (cQ2, 8, .inr (.inr (.inr (.inr (va_up f25 (2 : Int32).toNatClampNeg (some q26))))))), (q3, .inr (5, [.ref a4, .ref a5, .int 0])), (q8, .inr (5, [.ref a9, .ref a10, .int 0])), (q13, .inr (5, [.ref a14, .ref a15, .int 0])), (q26, .inr (0, [.int 0, .int 0, .int 0, .int 0, .int 0, .int 0, .int 0, .int 0]))] := hD
  generalize va_up f25 (2 : Int32).toNatClampNeg (some q26) = f29 at hP hD
  have hP := hP.sub (ws' := [(h, .inr (4, [.ref sc, .ref wo, .ref hi, .ref q1, .ref q3, .ref q8, .ref q13, .int 0, .int (-1)])), (q1, .inl (cQ2, 8, .inr (.inr (.inr (.inr f29))))), (q3, .inr (5, [.ref a4, .ref a5, .int 0])), (q8, .inr (5, [.ref a9, .ref a10, .int 0])), (q13, .inr (5, [.ref a14, .ref a15, .int 0]))]) [0, 1, 2, 3, 4] rfl
  have hD := hD.sub (ws' := [(h, .inr (4, [.ref sc, .ref wo, .ref hi, .ref q1, .ref q3, .ref q8, .ref q13, .int 0, .int (-1)])), (q1, .inl (cQ2, 8, .inr (.inr (.inr (.inr f29))))), (q3, .inr (5, [.ref a4, .ref a5, .int 0])), (q8, .inr (5, [.ref a9, .ref a10, .int 0])), (q13, .inr (5, [.ref a14, .ref a15, .int 0]))]) [0, 1, 2, 3, 4] (by decide) rfl
  refine lv_iinc (v := 3) (lv' := [(4, .int 3), (0, .ref h), (1, .ref sc), (2, .ref wo), (3, .ref hi)]) hx hb d_Teller_init_95 hl (k := 0) rfl (by decide) (by decide) rfl (fun ls hl => ?_)
  refine lv_goto hx hb d_Teller_init_98 (tgt := 74) (by decide) ?_
  refine lv_iload hx hb d_Teller_init_74 (lv_at hl 0 rfl) ?_
  refine lv_bipush (v := 8) hx hb d_Teller_init_76 (by decide) ?_
  refine lv_icmp_ge hx hb d_Teller_init_78 (tgt := 101) (by decide) (fun hz => absurd hz (by decide)) (fun _ => ?_)
  refine lv_aload_n hx hb d_Teller_init_81 rfl (lv_at hl 1 rfl) ?_
  refine va_get (D := D) (ci := 4) (v := .ref q1) (C := "TaleMachine$Teller") (T := F_Teller) (N := 9) hx hb hts in_Teller hown hK hP 0 rfl rfl 3 (by decide) (hts _ k_79) (fun _ h9 => h9) rfl d_Teller_init_82 ?_
  refine lv_iload hx hb d_Teller_init_85 (lv_at hl 0 rfl) ?_
  refine va_new (ci := 0) (fs := [.int 0, .int 0, .int 0, .int 0, .int 0, .int 0, .int 0, .int 0]) (C := "TaleMachine$Frame") (T := F_Frame) (N := 8) hx hb hts in_Frame t_Frame t_Frame_ok hown (hts _ k_78) (hts _ k_93) (hts _ k_94) hK hP hD hS hA rfl dv_Frame (Nat.le_of_ble_eq_true rfl) (Nat.le_of_ble_eq_true rfl) d_Teller_init_87 (fun q30 H hP hD hS => ?_)
  have hP : va_P D cL [(h, .inr (4, [.ref sc, .ref wo, .ref hi, .ref q1, .ref q3, .ref q8, .ref q13, .int 0, .int (-1)])), (q1, .inl (cQ2, 8, .inr (.inr (.inr (.inr f29))))), (q3, .inr (5, [.ref a4, .ref a5, .int 0])), (q8, .inr (5, [.ref a9, .ref a10, .int 0])), (q13, .inr (5, [.ref a14, .ref a15, .int 0])), (q30, .inr (0, [.int 0, .int 0, .int 0, .int 0, .int 0, .int 0, .int 0, .int 0]))] H := hP
  have hD : va_D A [(h, .inr (4, [.ref sc, .ref wo, .ref hi, .ref q1, .ref q3, .ref q8, .ref q13, .int 0, .int (-1)])), (q1, .inl (cQ2, 8, .inr (.inr (.inr (.inr f29))))), (q3, .inr (5, [.ref a4, .ref a5, .int 0])), (q8, .inr (5, [.ref a9, .ref a10, .int 0])), (q13, .inr (5, [.ref a14, .ref a15, .int 0])), (q30, .inr (0, [.int 0, .int 0, .int 0, .int 0, .int 0, .int 0, .int 0, .int 0]))] := hD
  refine W.widen (k := 14) (n := 231) (Nat.le_of_ble_eq_true rfl) (Nat.le_of_ble_eq_true rfl) ?_
  refine lv_dup hx hb d_Teller_init_90 rfl ?_
  refine mv_v (va_runIN (As := []) (rest := [.ref q30, .int 3, .ref q1]) ⟨hx, hb, hml, hown, hts⟩ (c_Frame_init l D cI cZ cJ q30 _ ) ⟨va_cnB 0 hts (gIn k_95) rfl rfl rfl (Tb_nest_Frame hT) (hts _ k_94) (by decide +kernel) ⟨Nat.le_of_ble_eq_true rfl, Nat.le_of_ble_eq_true rfl⟩, rfl, hts _ k_96⟩ (pre_S (hP.sub [5] rfl) (hK.sub [0, 1, 2] rfl) (hD.sub [5] (by decide) rfl) hT) rfl rfl hl.1 rfl (lv_room (Nat.le_of_ble_eq_true rfl)) d_Teller_init_91 ⟨Nat.le_of_ble_eq_true rfl, Nat.le_of_ble_eq_true rfl⟩) hP hD hS hA [5] [0, 1, 2, 3, 4] rfl rfl (by decide) (by decide) (wr := [(h, .inr (4, [.ref sc, .ref wo, .ref hi, .ref q1, .ref q3, .ref q8, .ref q13, .int 0, .int (-1)])), (q1, .inl (cQ2, 8, .inr (.inr (.inr (.inr f29))))), (q3, .inr (5, [.ref a4, .ref a5, .int 0])), (q8, .inr (5, [.ref a9, .ref a10, .int 0])), (q13, .inr (5, [.ref a14, .ref a15, .int 0]))]) (wn := fun _ => [(q30, .inr (0, [.int 0, .int 0, .int 0, .int 0, .int 0, .int 0, .int 0, .int 0]))]) (fun _ _ h9 => h9) (fun _ H locs hp32 hP hD hS => ?_)
  have hP : va_P D cL [(h, .inr (4, [.ref sc, .ref wo, .ref hi, .ref q1, .ref q3, .ref q8, .ref q13, .int 0, .int (-1)])), (q1, .inl (cQ2, 8, .inr (.inr (.inr (.inr f29))))), (q3, .inr (5, [.ref a4, .ref a5, .int 0])), (q8, .inr (5, [.ref a9, .ref a10, .int 0])), (q13, .inr (5, [.ref a14, .ref a15, .int 0])), (q30, .inr (0, [.int 0, .int 0, .int 0, .int 0, .int 0, .int 0, .int 0, .int 0]))] H := hP
  have hD : va_D A [(h, .inr (4, [.ref sc, .ref wo, .ref hi, .ref q1, .ref q3, .ref q8, .ref q13, .int 0, .int (-1)])), (q1, .inl (cQ2, 8, .inr (.inr (.inr (.inr f29))))), (q3, .inr (5, [.ref a4, .ref a5, .int 0])), (q8, .inr (5, [.ref a9, .ref a10, .int 0])), (q13, .inr (5, [.ref a14, .ref a15, .int 0])), (q30, .inr (0, [.int 0, .int 0, .int 0, .int 0, .int 0, .int 0, .int 0, .int 0]))] := hD
  refine va_astq (r := ("TaleMachine$Frame", F_Frame, 8)) hx hb hK hP hD hS 1 3 5 0 rfl rfl rfl rfl (i := 3) (in_c (by decide)) d_Teller_init_94 (fun H locs hP hD hS => ?_)
  have hP : va_P D cL [(h, .inr (4, [.ref sc, .ref wo, .ref hi, .ref q1, .ref q3, .ref q8, .ref q13, .int 0, .int (-1)])), (q1, .inl (cQ2, 8, .inr (.inr (.inr (.inr (va_up f29 (3 : Int32).toNatClampNeg (some q30))))))), (q3, .inr (5, [.ref a4, .ref a5, .int 0])), (q8, .inr (5, [.ref a9, .ref a10, .int 0])), (q13, .inr (5, [.ref a14, .ref a15, .int 0])), (q30, .inr (0, [.int 0, .int 0, .int 0, .int 0, .int 0, .int 0, .int 0, .int 0]))] H := hP
  have hD : va_D A [(h, .inr (4, [.ref sc, .ref wo, .ref hi, .ref q1, .ref q3, .ref q8, .ref q13, .int 0, .int (-1)])), (q1, .inl (cQ2, 8, .inr (.inr (.inr (.inr (va_up f29 (3 : Int32).toNatClampNeg (some q30))))))), (q3, .inr (5, [.ref a4, .ref a5, .int 0])), (q8, .inr (5, [.ref a9, .ref a10, .int 0])), (q13, .inr (5, [.ref a14, .ref a15, .int 0])), (q30, .inr (0, [.int 0, .int 0, .int 0, .int 0, .int 0, .int 0, .int 0, .int 0]))] := hD
  generalize va_up f29 (3 : Int32).toNatClampNeg (some q30) = f33 at hP hD
  have hP := hP.sub (ws' := [(h, .inr (4, [.ref sc, .ref wo, .ref hi, .ref q1, .ref q3, .ref q8, .ref q13, .int 0, .int (-1)])), (q1, .inl (cQ2, 8, .inr (.inr (.inr (.inr f33))))), (q3, .inr (5, [.ref a4, .ref a5, .int 0])), (q8, .inr (5, [.ref a9, .ref a10, .int 0])), (q13, .inr (5, [.ref a14, .ref a15, .int 0]))]) [0, 1, 2, 3, 4] rfl
  have hD := hD.sub (ws' := [(h, .inr (4, [.ref sc, .ref wo, .ref hi, .ref q1, .ref q3, .ref q8, .ref q13, .int 0, .int (-1)])), (q1, .inl (cQ2, 8, .inr (.inr (.inr (.inr f33))))), (q3, .inr (5, [.ref a4, .ref a5, .int 0])), (q8, .inr (5, [.ref a9, .ref a10, .int 0])), (q13, .inr (5, [.ref a14, .ref a15, .int 0]))]) [0, 1, 2, 3, 4] (by decide) rfl
  refine lv_iinc (v := 4) (lv' := [(4, .int 4), (0, .ref h), (1, .ref sc), (2, .ref wo), (3, .ref hi)]) hx hb d_Teller_init_95 hl (k := 0) rfl (by decide) (by decide) rfl (fun ls hl => ?_)
  refine lv_goto hx hb d_Teller_init_98 (tgt := 74) (by decide) ?_
  refine lv_iload hx hb d_Teller_init_74 (lv_at hl 0 rfl) ?_
  refine lv_bipush (v := 8) hx hb d_Teller_init_76 (by decide) ?_
  refine lv_icmp_ge hx hb d_Teller_init_78 (tgt := 101) (by decide) (fun hz => absurd hz (by decide)) (fun _ => ?_)
  refine lv_aload_n hx hb d_Teller_init_81 rfl (lv_at hl 1 rfl) ?_
  refine va_get (D := D) (ci := 4) (v := .ref q1) (C := "TaleMachine$Teller") (T := F_Teller) (N := 9) hx hb hts in_Teller hown hK hP 0 rfl rfl 3 (by decide) (hts _ k_79) (fun _ h9 => h9) rfl d_Teller_init_82 ?_
  refine lv_iload hx hb d_Teller_init_85 (lv_at hl 0 rfl) ?_
  refine va_new (ci := 0) (fs := [.int 0, .int 0, .int 0, .int 0, .int 0, .int 0, .int 0, .int 0]) (C := "TaleMachine$Frame") (T := F_Frame) (N := 8) hx hb hts in_Frame t_Frame t_Frame_ok hown (hts _ k_78) (hts _ k_93) (hts _ k_94) hK hP hD hS hA rfl dv_Frame (Nat.le_of_ble_eq_true rfl) (Nat.le_of_ble_eq_true rfl) d_Teller_init_87 (fun q34 H hP hD hS => ?_)
  have hP : va_P D cL [(h, .inr (4, [.ref sc, .ref wo, .ref hi, .ref q1, .ref q3, .ref q8, .ref q13, .int 0, .int (-1)])), (q1, .inl (cQ2, 8, .inr (.inr (.inr (.inr f33))))), (q3, .inr (5, [.ref a4, .ref a5, .int 0])), (q8, .inr (5, [.ref a9, .ref a10, .int 0])), (q13, .inr (5, [.ref a14, .ref a15, .int 0])), (q34, .inr (0, [.int 0, .int 0, .int 0, .int 0, .int 0, .int 0, .int 0, .int 0]))] H := hP
  have hD : va_D A [(h, .inr (4, [.ref sc, .ref wo, .ref hi, .ref q1, .ref q3, .ref q8, .ref q13, .int 0, .int (-1)])), (q1, .inl (cQ2, 8, .inr (.inr (.inr (.inr f33))))), (q3, .inr (5, [.ref a4, .ref a5, .int 0])), (q8, .inr (5, [.ref a9, .ref a10, .int 0])), (q13, .inr (5, [.ref a14, .ref a15, .int 0])), (q34, .inr (0, [.int 0, .int 0, .int 0, .int 0, .int 0, .int 0, .int 0, .int 0]))] := hD
  refine W.widen (k := 15) (n := 239) (Nat.le_of_ble_eq_true rfl) (Nat.le_of_ble_eq_true rfl) ?_
  refine lv_dup hx hb d_Teller_init_90 rfl ?_
  refine mv_v (va_runIN (As := []) (rest := [.ref q34, .int 4, .ref q1]) ⟨hx, hb, hml, hown, hts⟩ (c_Frame_init l D cI cZ cJ q34 _ ) ⟨va_cnB 0 hts (gIn k_95) rfl rfl rfl (Tb_nest_Frame hT) (hts _ k_94) (by decide +kernel) ⟨Nat.le_of_ble_eq_true rfl, Nat.le_of_ble_eq_true rfl⟩, rfl, hts _ k_96⟩ (pre_S (hP.sub [5] rfl) (hK.sub [0, 1, 2] rfl) (hD.sub [5] (by decide) rfl) hT) rfl rfl hl.1 rfl (lv_room (Nat.le_of_ble_eq_true rfl)) d_Teller_init_91 ⟨Nat.le_of_ble_eq_true rfl, Nat.le_of_ble_eq_true rfl⟩) hP hD hS hA [5] [0, 1, 2, 3, 4] rfl rfl (by decide) (by decide) (wr := [(h, .inr (4, [.ref sc, .ref wo, .ref hi, .ref q1, .ref q3, .ref q8, .ref q13, .int 0, .int (-1)])), (q1, .inl (cQ2, 8, .inr (.inr (.inr (.inr f33))))), (q3, .inr (5, [.ref a4, .ref a5, .int 0])), (q8, .inr (5, [.ref a9, .ref a10, .int 0])), (q13, .inr (5, [.ref a14, .ref a15, .int 0]))]) (wn := fun _ => [(q34, .inr (0, [.int 0, .int 0, .int 0, .int 0, .int 0, .int 0, .int 0, .int 0]))]) (fun _ _ h9 => h9) (fun _ H locs hp36 hP hD hS => ?_)
  have hP : va_P D cL [(h, .inr (4, [.ref sc, .ref wo, .ref hi, .ref q1, .ref q3, .ref q8, .ref q13, .int 0, .int (-1)])), (q1, .inl (cQ2, 8, .inr (.inr (.inr (.inr f33))))), (q3, .inr (5, [.ref a4, .ref a5, .int 0])), (q8, .inr (5, [.ref a9, .ref a10, .int 0])), (q13, .inr (5, [.ref a14, .ref a15, .int 0])), (q34, .inr (0, [.int 0, .int 0, .int 0, .int 0, .int 0, .int 0, .int 0, .int 0]))] H := hP
  have hD : va_D A [(h, .inr (4, [.ref sc, .ref wo, .ref hi, .ref q1, .ref q3, .ref q8, .ref q13, .int 0, .int (-1)])), (q1, .inl (cQ2, 8, .inr (.inr (.inr (.inr f33))))), (q3, .inr (5, [.ref a4, .ref a5, .int 0])), (q8, .inr (5, [.ref a9, .ref a10, .int 0])), (q13, .inr (5, [.ref a14, .ref a15, .int 0])), (q34, .inr (0, [.int 0, .int 0, .int 0, .int 0, .int 0, .int 0, .int 0, .int 0]))] := hD
  refine va_astq (r := ("TaleMachine$Frame", F_Frame, 8)) hx hb hK hP hD hS 1 3 5 0 rfl rfl rfl rfl (i := 4) (in_c (by decide)) d_Teller_init_94 (fun H locs hP hD hS => ?_)
  have hP : va_P D cL [(h, .inr (4, [.ref sc, .ref wo, .ref hi, .ref q1, .ref q3, .ref q8, .ref q13, .int 0, .int (-1)])), (q1, .inl (cQ2, 8, .inr (.inr (.inr (.inr (va_up f33 (4 : Int32).toNatClampNeg (some q34))))))), (q3, .inr (5, [.ref a4, .ref a5, .int 0])), (q8, .inr (5, [.ref a9, .ref a10, .int 0])), (q13, .inr (5, [.ref a14, .ref a15, .int 0])), (q34, .inr (0, [.int 0, .int 0, .int 0, .int 0, .int 0, .int 0, .int 0, .int 0]))] H := hP
  have hD : va_D A [(h, .inr (4, [.ref sc, .ref wo, .ref hi, .ref q1, .ref q3, .ref q8, .ref q13, .int 0, .int (-1)])), (q1, .inl (cQ2, 8, .inr (.inr (.inr (.inr (va_up f33 (4 : Int32).toNatClampNeg (some q34))))))), (q3, .inr (5, [.ref a4, .ref a5, .int 0])), (q8, .inr (5, [.ref a9, .ref a10, .int 0])), (q13, .inr (5, [.ref a14, .ref a15, .int 0])), (q34, .inr (0, [.int 0, .int 0, .int 0, .int 0, .int 0, .int 0, .int 0, .int 0]))] := hD
  generalize va_up f33 (4 : Int32).toNatClampNeg (some q34) = f37 at hP hD
  have hP := hP.sub (ws' := [(h, .inr (4, [.ref sc, .ref wo, .ref hi, .ref q1, .ref q3, .ref q8, .ref q13, .int 0, .int (-1)])), (q1, .inl (cQ2, 8, .inr (.inr (.inr (.inr f37))))), (q3, .inr (5, [.ref a4, .ref a5, .int 0])), (q8, .inr (5, [.ref a9, .ref a10, .int 0])), (q13, .inr (5, [.ref a14, .ref a15, .int 0]))]) [0, 1, 2, 3, 4] rfl
  have hD := hD.sub (ws' := [(h, .inr (4, [.ref sc, .ref wo, .ref hi, .ref q1, .ref q3, .ref q8, .ref q13, .int 0, .int (-1)])), (q1, .inl (cQ2, 8, .inr (.inr (.inr (.inr f37))))), (q3, .inr (5, [.ref a4, .ref a5, .int 0])), (q8, .inr (5, [.ref a9, .ref a10, .int 0])), (q13, .inr (5, [.ref a14, .ref a15, .int 0]))]) [0, 1, 2, 3, 4] (by decide) rfl
  refine lv_iinc (v := 5) (lv' := [(4, .int 5), (0, .ref h), (1, .ref sc), (2, .ref wo), (3, .ref hi)]) hx hb d_Teller_init_95 hl (k := 0) rfl (by decide) (by decide) rfl (fun ls hl => ?_)
  refine lv_goto hx hb d_Teller_init_98 (tgt := 74) (by decide) ?_
  refine lv_iload hx hb d_Teller_init_74 (lv_at hl 0 rfl) ?_
  refine lv_bipush (v := 8) hx hb d_Teller_init_76 (by decide) ?_
  refine lv_icmp_ge hx hb d_Teller_init_78 (tgt := 101) (by decide) (fun hz => absurd hz (by decide)) (fun _ => ?_)
  refine lv_aload_n hx hb d_Teller_init_81 rfl (lv_at hl 1 rfl) ?_
  refine va_get (D := D) (ci := 4) (v := .ref q1) (C := "TaleMachine$Teller") (T := F_Teller) (N := 9) hx hb hts in_Teller hown hK hP 0 rfl rfl 3 (by decide) (hts _ k_79) (fun _ h9 => h9) rfl d_Teller_init_82 ?_
  refine lv_iload hx hb d_Teller_init_85 (lv_at hl 0 rfl) ?_
  refine va_new (ci := 0) (fs := [.int 0, .int 0, .int 0, .int 0, .int 0, .int 0, .int 0, .int 0]) (C := "TaleMachine$Frame") (T := F_Frame) (N := 8) hx hb hts in_Frame t_Frame t_Frame_ok hown (hts _ k_78) (hts _ k_93) (hts _ k_94) hK hP hD hS hA rfl dv_Frame (Nat.le_of_ble_eq_true rfl) (Nat.le_of_ble_eq_true rfl) d_Teller_init_87 (fun q38 H hP hD hS => ?_)
  have hP : va_P D cL [(h, .inr (4, [.ref sc, .ref wo, .ref hi, .ref q1, .ref q3, .ref q8, .ref q13, .int 0, .int (-1)])), (q1, .inl (cQ2, 8, .inr (.inr (.inr (.inr f37))))), (q3, .inr (5, [.ref a4, .ref a5, .int 0])), (q8, .inr (5, [.ref a9, .ref a10, .int 0])), (q13, .inr (5, [.ref a14, .ref a15, .int 0])), (q38, .inr (0, [.int 0, .int 0, .int 0, .int 0, .int 0, .int 0, .int 0, .int 0]))] H := hP
  have hD : va_D A [(h, .inr (4, [.ref sc, .ref wo, .ref hi, .ref q1, .ref q3, .ref q8, .ref q13, .int 0, .int (-1)])), (q1, .inl (cQ2, 8, .inr (.inr (.inr (.inr f37))))), (q3, .inr (5, [.ref a4, .ref a5, .int 0])), (q8, .inr (5, [.ref a9, .ref a10, .int 0])), (q13, .inr (5, [.ref a14, .ref a15, .int 0])), (q38, .inr (0, [.int 0, .int 0, .int 0, .int 0, .int 0, .int 0, .int 0, .int 0]))] := hD
  refine W.widen (k := 16) (n := 247) (Nat.le_of_ble_eq_true rfl) (Nat.le_of_ble_eq_true rfl) ?_
  refine lv_dup hx hb d_Teller_init_90 rfl ?_
  refine mv_v (va_runIN (As := []) (rest := [.ref q38, .int 5, .ref q1]) ⟨hx, hb, hml, hown, hts⟩ (c_Frame_init l D cI cZ cJ q38 _ ) ⟨va_cnB 0 hts (gIn k_95) rfl rfl rfl (Tb_nest_Frame hT) (hts _ k_94) (by decide +kernel) ⟨Nat.le_of_ble_eq_true rfl, Nat.le_of_ble_eq_true rfl⟩, rfl, hts _ k_96⟩ (pre_S (hP.sub [5] rfl) (hK.sub [0, 1, 2] rfl) (hD.sub [5] (by decide) rfl) hT) rfl rfl hl.1 rfl (lv_room (Nat.le_of_ble_eq_true rfl)) d_Teller_init_91 ⟨Nat.le_of_ble_eq_true rfl, Nat.le_of_ble_eq_true rfl⟩) hP hD hS hA [5] [0, 1, 2, 3, 4] rfl rfl (by decide) (by decide) (wr := [(h, .inr (4, [.ref sc, .ref wo, .ref hi, .ref q1, .ref q3, .ref q8, .ref q13, .int 0, .int (-1)])), (q1, .inl (cQ2, 8, .inr (.inr (.inr (.inr f37))))), (q3, .inr (5, [.ref a4, .ref a5, .int 0])), (q8, .inr (5, [.ref a9, .ref a10, .int 0])), (q13, .inr (5, [.ref a14, .ref a15, .int 0]))]) (wn := fun _ => [(q38, .inr (0, [.int 0, .int 0, .int 0, .int 0, .int 0, .int 0, .int 0, .int 0]))]) (fun _ _ h9 => h9) (fun _ H locs hp40 hP hD hS => ?_)
  have hP : va_P D cL [(h, .inr (4, [.ref sc, .ref wo, .ref hi, .ref q1, .ref q3, .ref q8, .ref q13, .int 0, .int (-1)])), (q1, .inl (cQ2, 8, .inr (.inr (.inr (.inr f37))))), (q3, .inr (5, [.ref a4, .ref a5, .int 0])), (q8, .inr (5, [.ref a9, .ref a10, .int 0])), (q13, .inr (5, [.ref a14, .ref a15, .int 0])), (q38, .inr (0, [.int 0, .int 0, .int 0, .int 0, .int 0, .int 0, .int 0, .int 0]))] H := hP
  have hD : va_D A [(h, .inr (4, [.ref sc, .ref wo, .ref hi, .ref q1, .ref q3, .ref q8, .ref q13, .int 0, .int (-1)])), (q1, .inl (cQ2, 8, .inr (.inr (.inr (.inr f37))))), (q3, .inr (5, [.ref a4, .ref a5, .int 0])), (q8, .inr (5, [.ref a9, .ref a10, .int 0])), (q13, .inr (5, [.ref a14, .ref a15, .int 0])), (q38, .inr (0, [.int 0, .int 0, .int 0, .int 0, .int 0, .int 0, .int 0, .int 0]))] := hD
  refine va_astq (r := ("TaleMachine$Frame", F_Frame, 8)) hx hb hK hP hD hS 1 3 5 0 rfl rfl rfl rfl (i := 5) (in_c (by decide)) d_Teller_init_94 (fun H locs hP hD hS => ?_)
  have hP : va_P D cL [(h, .inr (4, [.ref sc, .ref wo, .ref hi, .ref q1, .ref q3, .ref q8, .ref q13, .int 0, .int (-1)])), (q1, .inl (cQ2, 8, .inr (.inr (.inr (.inr (va_up f37 (5 : Int32).toNatClampNeg (some q38))))))), (q3, .inr (5, [.ref a4, .ref a5, .int 0])), (q8, .inr (5, [.ref a9, .ref a10, .int 0])), (q13, .inr (5, [.ref a14, .ref a15, .int 0])), (q38, .inr (0, [.int 0, .int 0, .int 0, .int 0, .int 0, .int 0, .int 0, .int 0]))] H := hP
  have hD : va_D A [(h, .inr (4, [.ref sc, .ref wo, .ref hi, .ref q1, .ref q3, .ref q8, .ref q13, .int 0, .int (-1)])), (q1, .inl (cQ2, 8, .inr (.inr (.inr (.inr (va_up f37 (5 : Int32).toNatClampNeg (some q38))))))), (q3, .inr (5, [.ref a4, .ref a5, .int 0])), (q8, .inr (5, [.ref a9, .ref a10, .int 0])), (q13, .inr (5, [.ref a14, .ref a15, .int 0])), (q38, .inr (0, [.int 0, .int 0, .int 0, .int 0, .int 0, .int 0, .int 0, .int 0]))] := hD
  generalize va_up f37 (5 : Int32).toNatClampNeg (some q38) = f41 at hP hD
  have hP := hP.sub (ws' := [(h, .inr (4, [.ref sc, .ref wo, .ref hi, .ref q1, .ref q3, .ref q8, .ref q13, .int 0, .int (-1)])), (q1, .inl (cQ2, 8, .inr (.inr (.inr (.inr f41))))), (q3, .inr (5, [.ref a4, .ref a5, .int 0])), (q8, .inr (5, [.ref a9, .ref a10, .int 0])), (q13, .inr (5, [.ref a14, .ref a15, .int 0]))]) [0, 1, 2, 3, 4] rfl
  have hD := hD.sub (ws' := [(h, .inr (4, [.ref sc, .ref wo, .ref hi, .ref q1, .ref q3, .ref q8, .ref q13, .int 0, .int (-1)])), (q1, .inl (cQ2, 8, .inr (.inr (.inr (.inr f41))))), (q3, .inr (5, [.ref a4, .ref a5, .int 0])), (q8, .inr (5, [.ref a9, .ref a10, .int 0])), (q13, .inr (5, [.ref a14, .ref a15, .int 0]))]) [0, 1, 2, 3, 4] (by decide) rfl
  refine lv_iinc (v := 6) (lv' := [(4, .int 6), (0, .ref h), (1, .ref sc), (2, .ref wo), (3, .ref hi)]) hx hb d_Teller_init_95 hl (k := 0) rfl (by decide) (by decide) rfl (fun ls hl => ?_)
  refine lv_goto hx hb d_Teller_init_98 (tgt := 74) (by decide) ?_
  refine lv_iload hx hb d_Teller_init_74 (lv_at hl 0 rfl) ?_
  refine lv_bipush (v := 8) hx hb d_Teller_init_76 (by decide) ?_
  refine lv_icmp_ge hx hb d_Teller_init_78 (tgt := 101) (by decide) (fun hz => absurd hz (by decide)) (fun _ => ?_)
  refine lv_aload_n hx hb d_Teller_init_81 rfl (lv_at hl 1 rfl) ?_
  refine va_get (D := D) (ci := 4) (v := .ref q1) (C := "TaleMachine$Teller") (T := F_Teller) (N := 9) hx hb hts in_Teller hown hK hP 0 rfl rfl 3 (by decide) (hts _ k_79) (fun _ h9 => h9) rfl d_Teller_init_82 ?_
  refine lv_iload hx hb d_Teller_init_85 (lv_at hl 0 rfl) ?_
  refine va_new (ci := 0) (fs := [.int 0, .int 0, .int 0, .int 0, .int 0, .int 0, .int 0, .int 0]) (C := "TaleMachine$Frame") (T := F_Frame) (N := 8) hx hb hts in_Frame t_Frame t_Frame_ok hown (hts _ k_78) (hts _ k_93) (hts _ k_94) hK hP hD hS hA rfl dv_Frame (Nat.le_of_ble_eq_true rfl) (Nat.le_of_ble_eq_true rfl) d_Teller_init_87 (fun q42 H hP hD hS => ?_)
  have hP : va_P D cL [(h, .inr (4, [.ref sc, .ref wo, .ref hi, .ref q1, .ref q3, .ref q8, .ref q13, .int 0, .int (-1)])), (q1, .inl (cQ2, 8, .inr (.inr (.inr (.inr f41))))), (q3, .inr (5, [.ref a4, .ref a5, .int 0])), (q8, .inr (5, [.ref a9, .ref a10, .int 0])), (q13, .inr (5, [.ref a14, .ref a15, .int 0])), (q42, .inr (0, [.int 0, .int 0, .int 0, .int 0, .int 0, .int 0, .int 0, .int 0]))] H := hP
  have hD : va_D A [(h, .inr (4, [.ref sc, .ref wo, .ref hi, .ref q1, .ref q3, .ref q8, .ref q13, .int 0, .int (-1)])), (q1, .inl (cQ2, 8, .inr (.inr (.inr (.inr f41))))), (q3, .inr (5, [.ref a4, .ref a5, .int 0])), (q8, .inr (5, [.ref a9, .ref a10, .int 0])), (q13, .inr (5, [.ref a14, .ref a15, .int 0])), (q42, .inr (0, [.int 0, .int 0, .int 0, .int 0, .int 0, .int 0, .int 0, .int 0]))] := hD
  refine W.widen (k := 17) (n := 255) (Nat.le_of_ble_eq_true rfl) (Nat.le_of_ble_eq_true rfl) ?_
  refine lv_dup hx hb d_Teller_init_90 rfl ?_
  refine mv_v (va_runIN (As := []) (rest := [.ref q42, .int 6, .ref q1]) ⟨hx, hb, hml, hown, hts⟩ (c_Frame_init l D cI cZ cJ q42 _ ) ⟨va_cnB 0 hts (gIn k_95) rfl rfl rfl (Tb_nest_Frame hT) (hts _ k_94) (by decide +kernel) ⟨Nat.le_of_ble_eq_true rfl, Nat.le_of_ble_eq_true rfl⟩, rfl, hts _ k_96⟩ (pre_S (hP.sub [5] rfl) (hK.sub [0, 1, 2] rfl) (hD.sub [5] (by decide) rfl) hT) rfl rfl hl.1 rfl (lv_room (Nat.le_of_ble_eq_true rfl)) d_Teller_init_91 ⟨Nat.le_of_ble_eq_true rfl, Nat.le_of_ble_eq_true rfl⟩) hP hD hS hA [5] [0, 1, 2, 3, 4] rfl rfl (by decide) (by decide) (wr := [(h, .inr (4, [.ref sc, .ref wo, .ref hi, .ref q1, .ref q3, .ref q8, .ref q13, .int 0, .int (-1)])), (q1, .inl (cQ2, 8, .inr (.inr (.inr (.inr f41))))), (q3, .inr (5, [.ref a4, .ref a5, .int 0])), (q8, .inr (5, [.ref a9, .ref a10, .int 0])), (q13, .inr (5, [.ref a14, .ref a15, .int 0]))]) (wn := fun _ => [(q42, .inr (0, [.int 0, .int 0, .int 0, .int 0, .int 0, .int 0, .int 0, .int 0]))]) (fun _ _ h9 => h9) (fun _ H locs hp44 hP hD hS => ?_)
  have hP : va_P D cL [(h, .inr (4, [.ref sc, .ref wo, .ref hi, .ref q1, .ref q3, .ref q8, .ref q13, .int 0, .int (-1)])), (q1, .inl (cQ2, 8, .inr (.inr (.inr (.inr f41))))), (q3, .inr (5, [.ref a4, .ref a5, .int 0])), (q8, .inr (5, [.ref a9, .ref a10, .int 0])), (q13, .inr (5, [.ref a14, .ref a15, .int 0])), (q42, .inr (0, [.int 0, .int 0, .int 0, .int 0, .int 0, .int 0, .int 0, .int 0]))] H := hP
  have hD : va_D A [(h, .inr (4, [.ref sc, .ref wo, .ref hi, .ref q1, .ref q3, .ref q8, .ref q13, .int 0, .int (-1)])), (q1, .inl (cQ2, 8, .inr (.inr (.inr (.inr f41))))), (q3, .inr (5, [.ref a4, .ref a5, .int 0])), (q8, .inr (5, [.ref a9, .ref a10, .int 0])), (q13, .inr (5, [.ref a14, .ref a15, .int 0])), (q42, .inr (0, [.int 0, .int 0, .int 0, .int 0, .int 0, .int 0, .int 0, .int 0]))] := hD
  refine va_astq (r := ("TaleMachine$Frame", F_Frame, 8)) hx hb hK hP hD hS 1 3 5 0 rfl rfl rfl rfl (i := 6) (in_c (by decide)) d_Teller_init_94 (fun H locs hP hD hS => ?_)
  have hP : va_P D cL [(h, .inr (4, [.ref sc, .ref wo, .ref hi, .ref q1, .ref q3, .ref q8, .ref q13, .int 0, .int (-1)])), (q1, .inl (cQ2, 8, .inr (.inr (.inr (.inr (va_up f41 (6 : Int32).toNatClampNeg (some q42))))))), (q3, .inr (5, [.ref a4, .ref a5, .int 0])), (q8, .inr (5, [.ref a9, .ref a10, .int 0])), (q13, .inr (5, [.ref a14, .ref a15, .int 0])), (q42, .inr (0, [.int 0, .int 0, .int 0, .int 0, .int 0, .int 0, .int 0, .int 0]))] H := hP
  have hD : va_D A [(h, .inr (4, [.ref sc, .ref wo, .ref hi, .ref q1, .ref q3, .ref q8, .ref q13, .int 0, .int (-1)])), (q1, .inl (cQ2, 8, .inr (.inr (.inr (.inr (va_up f41 (6 : Int32).toNatClampNeg (some q42))))))), (q3, .inr (5, [.ref a4, .ref a5, .int 0])), (q8, .inr (5, [.ref a9, .ref a10, .int 0])), (q13, .inr (5, [.ref a14, .ref a15, .int 0])), (q42, .inr (0, [.int 0, .int 0, .int 0, .int 0, .int 0, .int 0, .int 0, .int 0]))] := hD
  generalize va_up f41 (6 : Int32).toNatClampNeg (some q42) = f45 at hP hD
  have hP := hP.sub (ws' := [(h, .inr (4, [.ref sc, .ref wo, .ref hi, .ref q1, .ref q3, .ref q8, .ref q13, .int 0, .int (-1)])), (q1, .inl (cQ2, 8, .inr (.inr (.inr (.inr f45))))), (q3, .inr (5, [.ref a4, .ref a5, .int 0])), (q8, .inr (5, [.ref a9, .ref a10, .int 0])), (q13, .inr (5, [.ref a14, .ref a15, .int 0]))]) [0, 1, 2, 3, 4] rfl
  have hD := hD.sub (ws' := [(h, .inr (4, [.ref sc, .ref wo, .ref hi, .ref q1, .ref q3, .ref q8, .ref q13, .int 0, .int (-1)])), (q1, .inl (cQ2, 8, .inr (.inr (.inr (.inr f45))))), (q3, .inr (5, [.ref a4, .ref a5, .int 0])), (q8, .inr (5, [.ref a9, .ref a10, .int 0])), (q13, .inr (5, [.ref a14, .ref a15, .int 0]))]) [0, 1, 2, 3, 4] (by decide) rfl
  refine lv_iinc (v := 7) (lv' := [(4, .int 7), (0, .ref h), (1, .ref sc), (2, .ref wo), (3, .ref hi)]) hx hb d_Teller_init_95 hl (k := 0) rfl (by decide) (by decide) rfl (fun ls hl => ?_)
  refine lv_goto hx hb d_Teller_init_98 (tgt := 74) (by decide) ?_
  refine lv_iload hx hb d_Teller_init_74 (lv_at hl 0 rfl) ?_
  refine lv_bipush (v := 8) hx hb d_Teller_init_76 (by decide) ?_
  refine lv_icmp_ge hx hb d_Teller_init_78 (tgt := 101) (by decide) (fun hz => absurd hz (by decide)) (fun _ => ?_)
  refine lv_aload_n hx hb d_Teller_init_81 rfl (lv_at hl 1 rfl) ?_
  refine va_get (D := D) (ci := 4) (v := .ref q1) (C := "TaleMachine$Teller") (T := F_Teller) (N := 9) hx hb hts in_Teller hown hK hP 0 rfl rfl 3 (by decide) (hts _ k_79) (fun _ h9 => h9) rfl d_Teller_init_82 ?_
  refine lv_iload hx hb d_Teller_init_85 (lv_at hl 0 rfl) ?_
  refine va_new (ci := 0) (fs := [.int 0, .int 0, .int 0, .int 0, .int 0, .int 0, .int 0, .int 0]) (C := "TaleMachine$Frame") (T := F_Frame) (N := 8) hx hb hts in_Frame t_Frame t_Frame_ok hown (hts _ k_78) (hts _ k_93) (hts _ k_94) hK hP hD hS hA rfl dv_Frame (Nat.le_of_ble_eq_true rfl) (Nat.le_of_ble_eq_true rfl) d_Teller_init_87 (fun q46 H hP hD hS => ?_)
  have hP : va_P D cL [(h, .inr (4, [.ref sc, .ref wo, .ref hi, .ref q1, .ref q3, .ref q8, .ref q13, .int 0, .int (-1)])), (q1, .inl (cQ2, 8, .inr (.inr (.inr (.inr f45))))), (q3, .inr (5, [.ref a4, .ref a5, .int 0])), (q8, .inr (5, [.ref a9, .ref a10, .int 0])), (q13, .inr (5, [.ref a14, .ref a15, .int 0])), (q46, .inr (0, [.int 0, .int 0, .int 0, .int 0, .int 0, .int 0, .int 0, .int 0]))] H := hP
  have hD : va_D A [(h, .inr (4, [.ref sc, .ref wo, .ref hi, .ref q1, .ref q3, .ref q8, .ref q13, .int 0, .int (-1)])), (q1, .inl (cQ2, 8, .inr (.inr (.inr (.inr f45))))), (q3, .inr (5, [.ref a4, .ref a5, .int 0])), (q8, .inr (5, [.ref a9, .ref a10, .int 0])), (q13, .inr (5, [.ref a14, .ref a15, .int 0])), (q46, .inr (0, [.int 0, .int 0, .int 0, .int 0, .int 0, .int 0, .int 0, .int 0]))] := hD
  refine W.widen (k := 18) (n := 263) (Nat.le_of_ble_eq_true rfl) (Nat.le_of_ble_eq_true rfl) ?_
  refine lv_dup hx hb d_Teller_init_90 rfl ?_
  refine mv_v (va_runIN (As := []) (rest := [.ref q46, .int 7, .ref q1]) ⟨hx, hb, hml, hown, hts⟩ (c_Frame_init l D cI cZ cJ q46 _ ) ⟨va_cnB 0 hts (gIn k_95) rfl rfl rfl (Tb_nest_Frame hT) (hts _ k_94) (by decide +kernel) ⟨Nat.le_of_ble_eq_true rfl, Nat.le_of_ble_eq_true rfl⟩, rfl, hts _ k_96⟩ (pre_S (hP.sub [5] rfl) (hK.sub [0, 1, 2] rfl) (hD.sub [5] (by decide) rfl) hT) rfl rfl hl.1 rfl (lv_room (Nat.le_of_ble_eq_true rfl)) d_Teller_init_91 ⟨Nat.le_of_ble_eq_true rfl, Nat.le_of_ble_eq_true rfl⟩) hP hD hS hA [5] [0, 1, 2, 3, 4] rfl rfl (by decide) (by decide) (wr := [(h, .inr (4, [.ref sc, .ref wo, .ref hi, .ref q1, .ref q3, .ref q8, .ref q13, .int 0, .int (-1)])), (q1, .inl (cQ2, 8, .inr (.inr (.inr (.inr f45))))), (q3, .inr (5, [.ref a4, .ref a5, .int 0])), (q8, .inr (5, [.ref a9, .ref a10, .int 0])), (q13, .inr (5, [.ref a14, .ref a15, .int 0]))]) (wn := fun _ => [(q46, .inr (0, [.int 0, .int 0, .int 0, .int 0, .int 0, .int 0, .int 0, .int 0]))]) (fun _ _ h9 => h9) (fun _ H locs hp48 hP hD hS => ?_)
  have hP : va_P D cL [(h, .inr (4, [.ref sc, .ref wo, .ref hi, .ref q1, .ref q3, .ref q8, .ref q13, .int 0, .int (-1)])), (q1, .inl (cQ2, 8, .inr (.inr (.inr (.inr f45))))), (q3, .inr (5, [.ref a4, .ref a5, .int 0])), (q8, .inr (5, [.ref a9, .ref a10, .int 0])), (q13, .inr (5, [.ref a14, .ref a15, .int 0])), (q46, .inr (0, [.int 0, .int 0, .int 0, .int 0, .int 0, .int 0, .int 0, .int 0]))] H := hP
  have hD : va_D A [(h, .inr (4, [.ref sc, .ref wo, .ref hi, .ref q1, .ref q3, .ref q8, .ref q13, .int 0, .int (-1)])), (q1, .inl (cQ2, 8, .inr (.inr (.inr (.inr f45))))), (q3, .inr (5, [.ref a4, .ref a5, .int 0])), (q8, .inr (5, [.ref a9, .ref a10, .int 0])), (q13, .inr (5, [.ref a14, .ref a15, .int 0])), (q46, .inr (0, [.int 0, .int 0, .int 0, .int 0, .int 0, .int 0, .int 0, .int 0]))] := hD
  refine va_astq (r := ("TaleMachine$Frame", F_Frame, 8)) hx hb hK hP hD hS 1 3 5 0 rfl rfl rfl rfl (i := 7) (in_c (by decide)) d_Teller_init_94 (fun H locs hP hD hS => ?_)
  have hP : va_P D cL [(h, .inr (4, [.ref sc, .ref wo, .ref hi, .ref q1, .ref q3, .ref q8, .ref q13, .int 0, .int (-1)])), (q1, .inl (cQ2, 8, .inr (.inr (.inr (.inr (va_up f45 (7 : Int32).toNatClampNeg (some q46))))))), (q3, .inr (5, [.ref a4, .ref a5, .int 0])), (q8, .inr (5, [.ref a9, .ref a10, .int 0])), (q13, .inr (5, [.ref a14, .ref a15, .int 0])), (q46, .inr (0, [.int 0, .int 0, .int 0, .int 0, .int 0, .int 0, .int 0, .int 0]))] H := hP
  have hD : va_D A [(h, .inr (4, [.ref sc, .ref wo, .ref hi, .ref q1, .ref q3, .ref q8, .ref q13, .int 0, .int (-1)])), (q1, .inl (cQ2, 8, .inr (.inr (.inr (.inr (va_up f45 (7 : Int32).toNatClampNeg (some q46))))))), (q3, .inr (5, [.ref a4, .ref a5, .int 0])), (q8, .inr (5, [.ref a9, .ref a10, .int 0])), (q13, .inr (5, [.ref a14, .ref a15, .int 0])), (q46, .inr (0, [.int 0, .int 0, .int 0, .int 0, .int 0, .int 0, .int 0, .int 0]))] := hD
  generalize va_up f45 (7 : Int32).toNatClampNeg (some q46) = f49 at hP hD
  have hP := hP.sub (ws' := [(h, .inr (4, [.ref sc, .ref wo, .ref hi, .ref q1, .ref q3, .ref q8, .ref q13, .int 0, .int (-1)])), (q1, .inl (cQ2, 8, .inr (.inr (.inr (.inr f49))))), (q3, .inr (5, [.ref a4, .ref a5, .int 0])), (q8, .inr (5, [.ref a9, .ref a10, .int 0])), (q13, .inr (5, [.ref a14, .ref a15, .int 0]))]) [0, 1, 2, 3, 4] rfl
  have hD := hD.sub (ws' := [(h, .inr (4, [.ref sc, .ref wo, .ref hi, .ref q1, .ref q3, .ref q8, .ref q13, .int 0, .int (-1)])), (q1, .inl (cQ2, 8, .inr (.inr (.inr (.inr f49))))), (q3, .inr (5, [.ref a4, .ref a5, .int 0])), (q8, .inr (5, [.ref a9, .ref a10, .int 0])), (q13, .inr (5, [.ref a14, .ref a15, .int 0]))]) [0, 1, 2, 3, 4] (by decide) rfl
  refine lv_iinc (v := 8) (lv' := [(4, .int 8), (0, .ref h), (1, .ref sc), (2, .ref wo), (3, .ref hi)]) hx hb d_Teller_init_95 hl (k := 0) rfl (by decide) (by decide) rfl (fun ls hl => ?_)
  refine lv_goto hx hb d_Teller_init_98 (tgt := 74) (by decide) ?_
  refine lv_iload hx hb d_Teller_init_74 (lv_at hl 0 rfl) ?_
  refine lv_bipush (v := 8) hx hb d_Teller_init_76 (by decide) ?_
  refine lv_icmp_ge hx hb d_Teller_init_78 (tgt := 101) (by decide) (fun _ => ?_) (fun hz => absurd (by decide) hz)
  exact end_v hx hb hr hlocks hS (u := (q1, q3, q8, q13, a4, a5, a9, a10, a14, a15)) (at_end (hP.sub (ws' := [(h, .inr (4, [.ref sc, .ref wo, .ref hi, .ref q1, .ref q3, .ref q8, .ref q13, .int 0, .int (-1)])), (q3, .inr (5, [.ref a4, .ref a5, .int 0])), (q8, .inr (5, [.ref a9, .ref a10, .int 0])), (q13, .inr (5, [.ref a14, .ref a15, .int 0]))]) [0, 2, 3, 4] rfl) (hD.sub (ws' := [(h, .inr (4, [.ref sc, .ref wo, .ref hi, .ref q1, .ref q3, .ref q8, .ref q13, .int 0, .int (-1)])), (q3, .inr (5, [.ref a4, .ref a5, .int 0])), (q8, .inr (5, [.ref a9, .ref a10, .int 0])), (q13, .inr (5, [.ref a14, .ref a15, .int 0]))]) [0, 2, 3, 4] (by decide) rfl)) (trivial) (Nat.le_of_ble_eq_true rfl) (Nat.le_of_ble_eq_true rfl) d_Teller_init_101
