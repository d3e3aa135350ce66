set_option maxHeartbeats 4000000 in
set_option maxRecDepth 100000 in
theorem c_fill (l : Launch) (D : va_G) (cI cZ cJ : ClassId) (ar nn : Nat) (fv : Nat → Int32) (vv : Int32) (sz : Nat) (hn : nn < 2 ^ 31) : Met l y_Arrays_fill (.code y_Arrays_fill prog_19_method_103_code 4 none :: AW) ({ frames := 0, cells := 0, slots := 0, locals := 0 }) (va_Pc [.ref ar, .int vv] (pre_ D [(ar, .inl (cI, nn, .inl fv))] [(cI, .int), (cZ, .boolean), (cJ, .long)] sz)) (va_Qv (fun (u : Unit) => True) (fun _ t => post_ D (va_A [(ar, .inl (cI, nn, .inl fv))] sz) [(ar, .inl (cI, nn, .inl (fun _ => vv)))] t) (va_A [(ar, .inl (cI, nn, .inl fv))] sz)) 0 0 (va_A [(ar, .inl (cI, nn, .inl fv))] sz) := by
  refine Met.ofW (cc := prog_19_method_103_code) (maxL := 4) (ret := none) (by decide) rfl ?_
  intro p e s m args below meth c s₁ B hml hv
  obtain ⟨rfl, rfl, hP, hK, hD0, hT⟩ := hv
  have hx := B.exec
  have hb := B.bytes
  have hr := B.returns
  have hlocks := B.notSynchronized
  have hD := hD0.self (sz := s.heap.size)
  generalize hAe : va_A [(ar, .inl (cI, nn, .inl fv))] s.heap.size = A at hD ⊢
  have hS : va_S A s.heap s.heap [] := va_S.rf
  have hl := lv_entry ([.ref ar, .int vv]) (n := 4) (Nat.le_of_ble_eq_true rfl)
  rw [lg_entry_eq]
  generalize (lg_sl ([.ref ar, .int vv]) ++ List.replicate (4 - (lg_sl ([.ref ar, .int vv])).length) Slot.unset).toArray = ls at hl ⊢
  have hl : lv_has ls 4 [(0, .ref ar), (1, .int vv)] := hl
  refine lv_iconst (v := 0) hx hb d_Arrays_fill_0 (by decide) ?_
  refine lv_istore_n (lv' := [(2, .int 0), (0, .ref ar), (1, .int vv)]) hx hb d_Arrays_fill_1 rfl hl (by decide) rfl (fun ls hl => ?_)
  refine lv_aload_n hx hb d_Arrays_fill_2 rfl (lv_at hl 1 rfl) ?_
  refine va_alen hx hb hK hP 0 0 rfl rfl (v := nI nn) rfl d_Arrays_fill_3 ?_
  refine lv_istore_n (lv' := [(3, .int (nI nn)), (2, .int 0), (0, .ref ar), (1, .int vv)]) hx hb d_Arrays_fill_4 rfl hl (by decide) rfl (fun ls hl => ?_)
  refine lp_W (I := fun k H locs ls => ∃ g : Nat → Int32, (∀ j, j < k → g j = vv) ∧ va_P D cL [(ar, .inl (cI, nn, .inl g))] H ∧ va_D A [(ar, .inl (cI, nn, .inl g))] ∧ va_S A s.heap H locs ∧ lv_has ls 4 [(3, .int (nI nn)), (2, .int (nI k)), (0, .ref ar), (1, .int vv)]) (a := 0) (b := nn) (Nat.zero_le _) ?_ _ _ _ ⟨fv, fun j h => absurd h (Nat.not_lt_zero j), hP, hD, hS, hl⟩
  intro k H locs ls hka hkb hI ih
  obtain ⟨g, hg, hP, hD, hS, hl⟩ := hI
  refine lv_iload_n hx hb d_Arrays_fill_5 rfl (lv_at hl 1 rfl) ?_
  refine lv_iload_n hx hb d_Arrays_fill_6 rfl (lv_at hl 0 rfl) ?_
  refine lv_icmp_ge hx hb d_Arrays_fill_7 (tgt := 20) (by decide) (fun hc => ?_) (fun hc => ?_)
  · have hkn : nn ≤ k := (nI_leI hn (by omega)).mp hc
    have hP9 := vs_ext (g := fun _ => vv) (fun j hj => hg j (by omega)) hP
    exact end_v hx hb hr hlocks hS (u := ()) (at_end hP9 (hD.set (p := 0) (e := .inl (cI, nn, .inl (fun _ => vv))) rfl)) trivial (Nat.le_of_ble_eq_true rfl) (Nat.le_of_ble_eq_true rfl) d_Arrays_fill_20
  · have hk : k < nn := Nat.lt_of_not_le (fun z => hc (nI_le z (by omega)))
    refine lv_aload_n hx hb d_Arrays_fill_10 rfl (lv_at hl 2 rfl) ?_
    refine lv_iload_n hx hb d_Arrays_fill_11 rfl (lv_at hl 1 rfl) ?_
    refine lv_iload_n hx hb d_Arrays_fill_12 rfl (lv_at hl 3 rfl) ?_
    refine va_iast hx hb hK hP hD hS 0 0 rfl rfl (i := nI k) (x := vv) (vp_in_nI hk hn) d_Arrays_fill_13 (fun H locs hP hD hS => ?_)
    have hP : va_P D cL [(ar, .inl (cI, nn, .inl (upd g (nI k).toNatClampNeg vv)))] H := hP
    have hD : va_D A [(ar, .inl (cI, nn, .inl (upd g (nI k).toNatClampNeg vv)))] := hD
    refine lv_iinc (v := nI (k + 1)) (lv' := [(2, .int (nI (k + 1))), (3, .int (nI nn)), (0, .ref ar), (1, .int vv)]) hx hb d_Arrays_fill_14 hl (k := 1) rfl (nI_1 k) (by decide) rfl (fun ls hl => ?_)
    refine lv_goto hx hb d_Arrays_fill_17 (tgt := 5) (by decide) ?_
    refine ih hk _ _ _ ⟨_, fun j hj => ?_, hP, hD, hS, lv_sub hl [1, 0, 2, 3] rfl⟩
    rw [nI_clamp (by omega)]
    by_cases hjk : j = k
    · rw [hjk]; exact pk_us
    · rw [pk_un hjk]; exact hg j (by omega)

set_option maxHeartbeats 4000000 in
set_option maxRecDepth 100000 in
theorem k_Script (l : Launch) (D : va_G) (cI cZ cJ : ClassId) (h : Nat) (sz : Nat)  : Met l y_Script_init (.code y_Script_init prog_4_method_1_code 1 none :: AW) ({ frames := 1, cells := 1, slots := 300, locals := 14 }) (va_Pc [.ref h] (pre_ D [(h, .inr (2, [.null, .int 0]))] [(cI, .int), (cZ, .boolean), (cJ, .long)] sz)) (va_Qv (fun (u : Nat) => True) (fun u t => match u with | by_ => post_ D (va_A [(h, .inr (2, [.null, .int 0]))] sz) [(h, .inr (2, [.ref by_, .int 0])), (by_, .inl (cI, 300, .inl (fun _ => 0)))] t) (va_A [(h, .inr (2, [.null, .int 0]))] sz)) 1 300 (va_A [(h, .inr (2, [.null, .int 0]))] sz) := by
  refine Met.ofW (cc := prog_4_method_1_code) (maxL := 1) (ret := none) (by decide) rfl ?_
  intro p e s m args below meth c s₁ B hml hv
  obtain ⟨rfl, rfl, hP, hK, hD0, hT⟩ := hv
  have hx := B.exec
  have hb := B.bytes
  have hr := B.returns
  have hts0 := atoms_spec (ws := .code y_Script_init prog_4_method_1_code 1 none :: AW) B.pre
  have hts : ∀ w ∈ AW, w.before [.ref h].toArray s = true := fun w h => hts0 w (List.mem_cons_of_mem _ h)
  have hown : s.vm.findClass "TaleMachine$Script" = some m.cls := findClass_of_methodNamed B.named
  have hlocks := B.notSynchronized
  have hin : meth.name = "<init>" := (name_of_methodNamed B.named B.method).1
  have hD := hD0.self (sz := s.heap.size)
  generalize hAe : va_A [(h, .inr (2, [.null, .int 0]))] s.heap.size = A at hD ⊢
  have hA : ∀ q : Nat, s.heap.size ≤ q → A q := fun q h => by rw [← hAe]; exact Or.inr h
  have hS : va_S A s.heap s.heap [] := va_S.rf
  have hl := lv_entry ([.ref h]) (n := 1) (Nat.le_of_ble_eq_true rfl)
  rw [lg_entry_eq]
  generalize (lg_sl ([.ref h]) ++ List.replicate (1 - (lg_sl ([.ref h])).length) Slot.unset).toArray = ls at hl ⊢
  have hl : lv_has ls 1 [(0, .ref h)] := hl
  refine lv_aload_n hx hb d_Script_init_0 rfl (lv_at hl 0 rfl) ?_
  refine W.objInit hx hb hown (hts _ k_31) (hts _ k_25) (hts _ k_26) rfl (by rw [hml]; exact hl.1) rfl d_Script_init_1 (Nat.le_of_ble_eq_true rfl) (Nat.le_of_ble_eq_true rfl) ?_
  refine W.eq (g2 := F0 m 4 ls []) rfl ?_
  refine lv_aload_n hx hb d_Script_init_4 rfl (lv_at hl 0 rfl) ?_
  refine lv_sipush (v := 300) hx hb d_Script_init_5 (by decide) ?_
  refine nw_i hx hb (hts _ k_36) hK 0 rfl hP hD hS hA (n := 300) (N' := 300) (by decide) (by decide) (by decide) (Nat.le_of_ble_eq_true rfl) (Nat.le_of_ble_eq_true rfl) d_Script_init_8 (fun q1 H hP hD hS => ?_)
  have hP : va_P D cL [(h, .inr (2, [.null, .int 0])), (q1, .inl (cI, 300, .inl (fun _ => 0)))] H := hP
  have hD : va_D A [(h, .inr (2, [.null, .int 0])), (q1, .inl (cI, 300, .inl (fun _ => 0)))] := hD
  refine W.widen (k := 1) (n := 300) (Nat.le_of_ble_eq_true rfl) (Nat.le_of_ble_eq_true rfl) ?_
  refine va_putF (D := D) (ci := 2) (v := .ref q1) (ty := .array .int) (C := "TaleMachine$Script") (T := F_Script) (N := 2) hx hb hts in_Script t_Script t_Script_ok n_Script hown hK hP hD hS 0 rfl rfl 0 (by decide) (hts _ k_32) (fun _ h9 => h9) rfl hin rfl (by decide +kernel) rfl rfl (Nat.le_of_ble_eq_true rfl) d_Script_init_10 (fun H locs hP hD hS => ?_)
  have hP : va_P D cL [(h, .inr (2, [.ref q1, .int 0])), (q1, .inl (cI, 300, .inl (fun _ => 0)))] H := hP
  have hD : va_D A [(h, .inr (2, [.ref q1, .int 0])), (q1, .inl (cI, 300, .inl (fun _ => 0)))] := hD
  exact end_v hx hb hr hlocks hS (u := q1) (at_end (hP.sub (ws' := [(h, .inr (2, [.ref q1, .int 0])), (q1, .inl (cI, 300, .inl (fun _ => 0)))]) [0, 1] rfl) (hD.sub (ws' := [(h, .inr (2, [.ref q1, .int 0])), (q1, .inl (cI, 300, .inl (fun _ => 0)))]) [0, 1] (by decide) rfl)) (trivial) (Nat.le_of_ble_eq_true rfl) (Nat.le_of_ble_eq_true rfl) d_Script_init_13

set_option maxHeartbeats 4000000 in
set_option maxRecDepth 100000 in
theorem k_Frame (l : Launch) (D : va_G) (cI cZ cJ : ClassId) (h : Nat) (sz : Nat)  : Met l y_Frame_init (.code y_Frame_init prog_2_method_1_code 1 none :: AW) ({ frames := 1, cells := 0, slots := 0, locals := 14 }) (va_Pc [.ref h] (pre_ D [(h, .inr (0, [.int 0, .int 0, .int 0, .int 0, .int 0, .int 0, .int 0, .int 0]))] [(cI, .int), (cZ, .boolean), (cJ, .long)] sz)) (va_Qv (fun (u : Unit) => True) (fun _ t => post_ D (va_A [(h, .inr (0, [.int 0, .int 0, .int 0, .int 0, .int 0, .int 0, .int 0, .int 0]))] sz) [(h, .inr (0, [.int 0, .int 0, .int 0, .int 0, .int 0, .int 0, .int 0, .int 0]))] t) (va_A [(h, .inr (0, [.int 0, .int 0, .int 0, .int 0, .int 0, .int 0, .int 0, .int 0]))] sz)) 0 0 (va_A [(h, .inr (0, [.int 0, .int 0, .int 0, .int 0, .int 0, .int 0, .int 0, .int 0]))] sz) := by
  refine Met.ofW (cc := prog_2_method_1_code) (maxL := 1) (ret := none) (by decide) rfl ?_
  intro p e s m args below meth c s₁ B hml hv
  obtain ⟨rfl, rfl, hP, hK, hD0, hT⟩ := hv
  have hx := B.exec
  have hb := B.bytes
  have hr := B.returns
  have hts0 := atoms_spec (ws := .code y_Frame_init prog_2_method_1_code 1 none :: AW) B.pre
  have hts : ∀ w ∈ AW, w.before [.ref h].toArray s = true := fun w h => hts0 w (List.mem_cons_of_mem _ h)
  have hown : s.vm.findClass "TaleMachine$Frame" = some m.cls := findClass_of_methodNamed B.named
  have hlocks := B.notSynchronized
  have hin : meth.name = "<init>" := (name_of_methodNamed B.named B.method).1
  have hD := hD0.self (sz := s.heap.size)
  generalize hAe : va_A [(h, .inr (0, [.int 0, .int 0, .int 0, .int 0, .int 0, .int 0, .int 0, .int 0]))] s.heap.size = A at hD ⊢
  have hA : ∀ q : Nat, s.heap.size ≤ q → A q := fun q h => by rw [← hAe]; exact Or.inr h
  have hS : va_S A s.heap s.heap [] := va_S.rf
  have hl := lv_entry ([.ref h]) (n := 1) (Nat.le_of_ble_eq_true rfl)
  rw [lg_entry_eq]
  generalize (lg_sl ([.ref h]) ++ List.replicate (1 - (lg_sl ([.ref h])).length) Slot.unset).toArray = ls at hl ⊢
  have hl : lv_has ls 1 [(0, .ref h)] := hl
  refine lv_aload_n hx hb d_Frame_init_0 rfl (lv_at hl 0 rfl) ?_
  refine W.objInit hx hb hown (hts _ k_126) (hts _ k_25) (hts _ k_26) rfl (by rw [hml]; exact hl.1) rfl d_Frame_init_1 (Nat.le_of_ble_eq_true rfl) (Nat.le_of_ble_eq_true rfl) ?_
  refine W.eq (g2 := F0 m 4 ls []) rfl ?_
  exact end_v hx hb hr hlocks hS (u := ()) (at_end (hP.sub (ws' := [(h, .inr (0, [.int 0, .int 0, .int 0, .int 0, .int 0, .int 0, .int 0, .int 0]))]) [0] rfl) (hD.sub (ws' := [(h, .inr (0, [.int 0, .int 0, .int 0, .int 0, .int 0, .int 0, .int 0, .int 0]))]) [0] (by decide) rfl)) (trivial) (Nat.le_of_ble_eq_true rfl) (Nat.le_of_ble_eq_true rfl) d_Frame_init_4

set_option maxHeartbeats 4000000 in
set_option maxRecDepth 100000 in
theorem k_Values_40 (l : Launch) (D : va_G) (cI cZ cJ : ClassId) (h : Nat) (sz : Nat)  : Met l y_Values_init (.code y_Values_init prog_7_method_1_code 2 none :: AW) ({ frames := 1, cells := 2, slots := 80, locals := 14 }) (va_Pc [.ref h, .int 40] (pre_ D [(h, .inr (5, [.null, .null, .int 0]))] [(cI, .int), (cZ, .boolean), (cJ, .long)] sz)) (va_Qv (fun (u : Nat × Nat) => True) (fun u t => match u with | (vk, vi) => post_ D (va_A [(h, .inr (5, [.null, .null, .int 0]))] sz) [(h, .inr (5, [.ref vk, .ref vi, .int 0])), (vk, .inl (cI, 40, .inl (fun _ => 0))), (vi, .inl (cI, 40, .inl (fun _ => 0)))] t) (va_A [(h, .inr (5, [.null, .null, .int 0]))] sz)) 2 80 (va_A [(h, .inr (5, [.null, .null, .int 0]))] sz) := by
  refine Met.ofW (cc := prog_7_method_1_code) (maxL := 2) (ret := none) (by decide) rfl ?_
  intro p e s m args below meth c s₁ B hml hv
  obtain ⟨rfl, rfl, hP, hK, hD0, hT⟩ := hv
  have hx := B.exec
  have hb := B.bytes
  have hr := B.returns
  have hts0 := atoms_spec (ws := .code y_Values_init prog_7_method_1_code 2 none :: AW) B.pre
  have hts : ∀ w ∈ AW, w.before [.ref h, .int 40].toArray s = true := fun w h => hts0 w (List.mem_cons_of_mem _ h)
  have hown : s.vm.findClass "TaleMachine$Values" = some m.cls := findClass_of_methodNamed B.named
  have hlocks := B.notSynchronized
  have hin : meth.name = "<init>" := (name_of_methodNamed B.named B.method).1
  have hD := hD0.self (sz := s.heap.size)
  generalize hAe : va_A [(h, .inr (5, [.null, .null, .int 0]))] s.heap.size = A at hD ⊢
  have hA : ∀ q : Nat, s.heap.size ≤ q → A q := fun q h => by rw [← hAe]; exact Or.inr h
  have hS : va_S A s.heap s.heap [] := va_S.rf
  have hl := lv_entry ([.ref h, .int 40]) (n := 2) (Nat.le_of_ble_eq_true rfl)
  rw [lg_entry_eq]
  generalize (lg_sl ([.ref h, .int 40]) ++ List.replicate (2 - (lg_sl ([.ref h, .int 40])).length) Slot.unset).toArray = ls at hl ⊢
  have hl : lv_has ls 2 [(0, .ref h), (1, .int 40)] := hl
  refine lv_aload_n hx hb d_Values_init_0 rfl (lv_at hl 0 rfl) ?_
  refine W.objInit hx hb hown (hts _ k_110) (hts _ k_25) (hts _ k_26) rfl (by rw [hml]; exact hl.1) rfl d_Values_init_1 (Nat.le_of_ble_eq_true rfl) (Nat.le_of_ble_eq_true rfl) ?_
  refine W.eq (g2 := F0 m 4 ls []) rfl ?_
  refine lv_aload_n hx hb d_Values_init_4 rfl (lv_at hl 0 rfl) ?_
  refine lv_iload_n hx hb d_Values_init_5 rfl (lv_at hl 1 rfl) ?_
  refine nw_i hx hb (hts _ k_36) hK 0 rfl hP hD hS hA (n := 40) (N' := 40) (by decide) (by decide) (by decide) (Nat.le_of_ble_eq_true rfl) (Nat.le_of_ble_eq_true rfl) d_Values_init_6 (fun q1 H hP hD hS => ?_)
  have hP : va_P D cL [(h, .inr (5, [.null, .null, .int 0])), (q1, .inl (cI, 40, .inl (fun _ => 0)))] H := hP
  have hD : va_D A [(h, .inr (5, [.null, .null, .int 0])), (q1, .inl (cI, 40, .inl (fun _ => 0)))] := hD
  refine W.widen (k := 1) (n := 40) (Nat.le_of_ble_eq_true rfl) (Nat.le_of_ble_eq_true rfl) ?_
  refine va_putF (D := D) (ci := 5) (v := .ref q1) (ty := .array .int) (C := "TaleMachine$Values") (T := F_Values) (N := 3) hx hb hts in_Values t_Values t_Values_ok n_Values hown hK hP hD hS 0 rfl rfl 0 (by decide) (hts _ k_111) (fun _ h9 => h9) rfl hin rfl (by decide +kernel) rfl rfl (Nat.le_of_ble_eq_true rfl) d_Values_init_8 (fun H locs hP hD hS => ?_)
  have hP : va_P D cL [(h, .inr (5, [.ref q1, .null, .int 0])), (q1, .inl (cI, 40, .inl (fun _ => 0)))] H := hP
  have hD : va_D A [(h, .inr (5, [.ref q1, .null, .int 0])), (q1, .inl (cI, 40, .inl (fun _ => 0)))] := hD
  refine lv_aload_n hx hb d_Values_init_11 rfl (lv_at hl 0 rfl) ?_
  refine lv_iload_n hx hb d_Values_init_12 rfl (lv_at hl 1 rfl) ?_
  refine nw_i hx hb (hts _ k_36) hK 0 rfl hP hD hS hA (n := 40) (N' := 40) (by decide) (by decide) (by decide) (Nat.le_of_ble_eq_true rfl) (Nat.le_of_ble_eq_true rfl) d_Values_init_13 (fun q2 H hP hD hS => ?_)
  have hP : va_P D cL [(h, .inr (5, [.ref q1, .null, .int 0])), (q1, .inl (cI, 40, .inl (fun _ => 0))), (q2, .inl (cI, 40, .inl (fun _ => 0)))] H := hP
  have hD : va_D A [(h, .inr (5, [.ref q1, .null, .int 0])), (q1, .inl (cI, 40, .inl (fun _ => 0))), (q2, .inl (cI, 40, .inl (fun _ => 0)))] := hD
  refine W.widen (k := 2) (n := 80) (Nat.le_of_ble_eq_true rfl) (Nat.le_of_ble_eq_true rfl) ?_
  refine va_putF (D := D) (ci := 5) (v := .ref q2) (ty := .array .int) (C := "TaleMachine$Values") (T := F_Values) (N := 3) hx hb hts in_Values t_Values t_Values_ok n_Values hown hK hP hD hS 0 rfl rfl 1 (by decide) (hts _ k_114) (fun _ h9 => h9) rfl hin rfl (by decide +kernel) rfl rfl (Nat.le_of_ble_eq_true rfl) d_Values_init_15 (fun H locs hP hD hS => ?_)
  have hP : va_P D cL [(h, .inr (5, [.ref q1, .ref q2, .int 0])), (q1, .inl (cI, 40, .inl (fun _ => 0))), (q2, .inl (cI, 40, .inl (fun _ => 0)))] H := hP
  have hD : va_D A [(h, .inr (5, [.ref q1, .ref q2, .int 0])), (q1, .inl (cI, 40, .inl (fun _ => 0))), (q2, .inl (cI, 40, .inl (fun _ => 0)))] := hD
  exact end_v hx hb hr hlocks hS (u := (q1, q2)) (at_end (hP.sub (ws' := [(h, .inr (5, [.ref q1, .ref q2, .int 0])), (q1, .inl (cI, 40, .inl (fun _ => 0))), (q2, .inl (cI, 40, .inl (fun _ => 0)))]) [0, 1, 2] rfl) (hD.sub (ws' := [(h, .inr (5, [.ref q1, .ref q2, .int 0])), (q1, .inl (cI, 40, .inl (fun _ => 0))), (q2, .inl (cI, 40, .inl (fun _ => 0)))]) [0, 1, 2] (by decide) rfl)) (trivial) (Nat.le_of_ble_eq_true rfl) (Nat.le_of_ble_eq_true rfl) d_Values_init_18

set_option maxHeartbeats 4000000 in
set_option maxRecDepth 100000 in
theorem k_Values_50 (l : Launch) (D : va_G) (cI cZ cJ : ClassId) (h : Nat) (sz : Nat)  : Met l y_Values_init (.code y_Values_init prog_7_method_1_code 2 none :: AW) ({ frames := 1, cells := 2, slots := 100, locals := 14 }) (va_Pc [.ref h, .int 50] (pre_ D [(h, .inr (5, [.null, .null, .int 0]))] [(cI, .int), (cZ, .boolean), (cJ, .long)] sz)) (va_Qv (fun (u : Nat × Nat) => True) (fun u t => match u with | (vk, vi) => post_ D (va_A [(h, .inr (5, [.null, .null, .int 0]))] sz) [(h, .inr (5, [.ref vk, .ref vi, .int 0])), (vk, .inl (cI, 50, .inl (fun _ => 0))), (vi, .inl (cI, 50, .inl (fun _ => 0)))] t) (va_A [(h, .inr (5, [.null, .null, .int 0]))] sz)) 2 100 (va_A [(h, .inr (5, [.null, .null, .int 0]))] sz) := by
  refine Met.ofW (cc := prog_7_method_1_code) (maxL := 2) (ret := none) (by decide) rfl ?_
  intro p e s m args below meth c s₁ B hml hv
  obtain ⟨rfl, rfl, hP, hK, hD0, hT⟩ := hv
  have hx := B.exec
  have hb := B.bytes
  have hr := B.returns
  have hts0 := atoms_spec (ws := .code y_Values_init prog_7_method_1_code 2 none :: AW) B.pre
  have hts : ∀ w ∈ AW, w.before [.ref h, .int 50].toArray s = true := fun w h => hts0 w (List.mem_cons_of_mem _ h)
  have hown : s.vm.findClass "TaleMachine$Values" = some m.cls := findClass_of_methodNamed B.named
  have hlocks := B.notSynchronized
  have hin : meth.name = "<init>" := (name_of_methodNamed B.named B.method).1
  have hD := hD0.self (sz := s.heap.size)
  generalize hAe : va_A [(h, .inr (5, [.null, .null, .int 0]))] s.heap.size = A at hD ⊢
  have hA : ∀ q : Nat, s.heap.size ≤ q → A q := fun q h => by rw [← hAe]; exact Or.inr h
  have hS : va_S A s.heap s.heap [] := va_S.rf
  have hl := lv_entry ([.ref h, .int 50]) (n := 2) (Nat.le_of_ble_eq_true rfl)
  rw [lg_entry_eq]
  generalize (lg_sl ([.ref h, .int 50]) ++ List.replicate (2 - (lg_sl ([.ref h, .int 50])).length) Slot.unset).toArray = ls at hl ⊢
  have hl : lv_has ls 2 [(0, .ref h), (1, .int 50)] := hl
  refine lv_aload_n hx hb d_Values_init_0 rfl (lv_at hl 0 rfl) ?_
  refine W.objInit hx hb hown (hts _ k_110) (hts _ k_25) (hts _ k_26) rfl (by rw [hml]; exact hl.1) rfl d_Values_init_1 (Nat.le_of_ble_eq_true rfl) (Nat.le_of_ble_eq_true rfl) ?_
  refine W.eq (g2 := F0 m 4 ls []) rfl ?_
  refine lv_aload_n hx hb d_Values_init_4 rfl (lv_at hl 0 rfl) ?_
  refine lv_iload_n hx hb d_Values_init_5 rfl (lv_at hl 1 rfl) ?_
  refine nw_i hx hb (hts _ k_36) hK 0 rfl hP hD hS hA (n := 50) (N' := 50) (by decide) (by decide) (by decide) (Nat.le_of_ble_eq_true rfl) (Nat.le_of_ble_eq_true rfl) d_Values_init_6 (fun q1 H hP hD hS => ?_)
  have hP : va_P D cL [(h, .inr (5, [.null, .null, .int 0])), (q1, .inl (cI, 50, .inl (fun _ => 0)))] H := hP
  have hD : va_D A [(h, .inr (5, [.null, .null, .int 0])), (q1, .inl (cI, 50, .inl (fun _ => 0)))] := hD
  refine W.widen (k := 1) (n := 50) (Nat.le_of_ble_eq_true rfl) (Nat.le_of_ble_eq_true rfl) ?_
  refine va_putF (D := D) (ci := 5) (v := .ref q1) (ty := .array .int) (C := "TaleMachine$Values") (T := F_Values) (N := 3) hx hb hts in_Values t_Values t_Values_ok n_Values hown hK hP hD hS 0 rfl rfl 0 (by decide) (hts _ k_111) (fun _ h9 => h9) rfl hin rfl (by decide +kernel) rfl rfl (Nat.le_of_ble_eq_true rfl) d_Values_init_8 (fun H locs hP hD hS => ?_)
  have hP : va_P D cL [(h, .inr (5, [.ref q1, .null, .int 0])), (q1, .inl (cI, 50, .inl (fun _ => 0)))] H := hP
  have hD : va_D A [(h, .inr (5, [.ref q1, .null, .int 0])), (q1, .inl (cI, 50, .inl (fun _ => 0)))] := hD
  refine lv_aload_n hx hb d_Values_init_11 rfl (lv_at hl 0 rfl) ?_
  refine lv_iload_n hx hb d_Values_init_12 rfl (lv_at hl 1 rfl) ?_
  refine nw_i hx hb (hts _ k_36) hK 0 rfl hP hD hS hA (n := 50) (N' := 50) (by decide) (by decide) (by decide) (Nat.le_of_ble_eq_true rfl) (Nat.le_of_ble_eq_true rfl) d_Values_init_13 (fun q2 H hP hD hS => ?_)
  have hP : va_P D cL [(h, .inr (5, [.ref q1, .null, .int 0])), (q1, .inl (cI, 50, .inl (fun _ => 0))), (q2, .inl (cI, 50, .inl (fun _ => 0)))] H := hP
  have hD : va_D A [(h, .inr (5, [.ref q1, .null, .int 0])), (q1, .inl (cI, 50, .inl (fun _ => 0))), (q2, .inl (cI, 50, .inl (fun _ => 0)))] := hD
  refine W.widen (k := 2) (n := 100) (Nat.le_of_ble_eq_true rfl) (Nat.le_of_ble_eq_true rfl) ?_
  refine va_putF (D := D) (ci := 5) (v := .ref q2) (ty := .array .int) (C := "TaleMachine$Values") (T := F_Values) (N := 3) hx hb hts in_Values t_Values t_Values_ok n_Values hown hK hP hD hS 0 rfl rfl 1 (by decide) (hts _ k_114) (fun _ h9 => h9) rfl hin rfl (by decide +kernel) rfl rfl (Nat.le_of_ble_eq_true rfl) d_Values_init_15 (fun H locs hP hD hS => ?_)
  have hP : va_P D cL [(h, .inr (5, [.ref q1, .ref q2, .int 0])), (q1, .inl (cI, 50, .inl (fun _ => 0))), (q2, .inl (cI, 50, .inl (fun _ => 0)))] H := hP
  have hD : va_D A [(h, .inr (5, [.ref q1, .ref q2, .int 0])), (q1, .inl (cI, 50, .inl (fun _ => 0))), (q2, .inl (cI, 50, .inl (fun _ => 0)))] := hD
  exact end_v hx hb hr hlocks hS (u := (q1, q2)) (at_end (hP.sub (ws' := [(h, .inr (5, [.ref q1, .ref q2, .int 0])), (q1, .inl (cI, 50, .inl (fun _ => 0))), (q2, .inl (cI, 50, .inl (fun _ => 0)))]) [0, 1, 2] rfl) (hD.sub (ws' := [(h, .inr (5, [.ref q1, .ref q2, .int 0])), (q1, .inl (cI, 50, .inl (fun _ => 0))), (q2, .inl (cI, 50, .inl (fun _ => 0)))]) [0, 1, 2] (by decide) rfl)) (trivial) (Nat.le_of_ble_eq_true rfl) (Nat.le_of_ble_eq_true rfl) d_Values_init_18

set_option maxHeartbeats 4000000 in
set_option maxRecDepth 100000 in
theorem k_Values_1 (l : Launch) (D : va_G) (cI cZ cJ : ClassId) (h : Nat) (sz : Nat)  : Met l y_Values_init (.code y_Values_init prog_7_method_1_code 2 none :: AW) ({ frames := 1, cells := 2, slots := 2, locals := 14 }) (va_Pc [.ref h, .int 1] (pre_ D [(h, .inr (5, [.null, .null, .int 0]))] [(cI, .int), (cZ, .boolean), (cJ, .long)] sz)) (va_Qv (fun (u : Nat × Nat) => True) (fun u t => match u with | (vk, vi) => post_ D (va_A [(h, .inr (5, [.null, .null, .int 0]))] sz) [(h, .inr (5, [.ref vk, .ref vi, .int 0])), (vk, .inl (cI, 1, .inl (fun _ => 0))), (vi, .inl (cI, 1, .inl (fun _ => 0)))] t) (va_A [(h, .inr (5, [.null, .null, .int 0]))] sz)) 2 2 (va_A [(h, .inr (5, [.null, .null, .int 0]))] sz) := by
  refine Met.ofW (cc := prog_7_method_1_code) (maxL := 2) (ret := none) (by decide) rfl ?_
  intro p e s m args below meth c s₁ B hml hv
  obtain ⟨rfl, rfl, hP, hK, hD0, hT⟩ := hv
  have hx := B.exec
  have hb := B.bytes
  have hr := B.returns
  have hts0 := atoms_spec (ws := .code y_Values_init prog_7_method_1_code 2 none :: AW) B.pre
  have hts : ∀ w ∈ AW, w.before [.ref h, .int 1].toArray s = true := fun w h => hts0 w (List.mem_cons_of_mem _ h)
  have hown : s.vm.findClass "TaleMachine$Values" = some m.cls := findClass_of_methodNamed B.named
  have hlocks := B.notSynchronized
  have hin : meth.name = "<init>" := (name_of_methodNamed B.named B.method).1
  have hD := hD0.self (sz := s.heap.size)
  generalize hAe : va_A [(h, .inr (5, [.null, .null, .int 0]))] s.heap.size = A at hD ⊢
  have hA : ∀ q : Nat, s.heap.size ≤ q → A q := fun q h => by rw [← hAe]; exact Or.inr h
  have hS : va_S A s.heap s.heap [] := va_S.rf
  have hl := lv_entry ([.ref h, .int 1]) (n := 2) (Nat.le_of_ble_eq_true rfl)
  rw [lg_entry_eq]
  generalize (lg_sl ([.ref h, .int 1]) ++ List.replicate (2 - (lg_sl ([.ref h, .int 1])).length) Slot.unset).toArray = ls at hl ⊢
  have hl : lv_has ls 2 [(0, .ref h), (1, .int 1)] := hl
  refine lv_aload_n hx hb d_Values_init_0 rfl (lv_at hl 0 rfl) ?_
  refine W.objInit hx hb hown (hts _ k_110) (hts _ k_25) (hts _ k_26) rfl (by rw [hml]; exact hl.1) rfl d_Values_init_1 (Nat.le_of_ble_eq_true rfl) (Nat.le_of_ble_eq_true rfl) ?_
  refine W.eq (g2 := F0 m 4 ls []) rfl ?_
  refine lv_aload_n hx hb d_Values_init_4 rfl (lv_at hl 0 rfl) ?_
  refine lv_iload_n hx hb d_Values_init_5 rfl (lv_at hl 1 rfl) ?_
  refine nw_i hx hb (hts _ k_36) hK 0 rfl hP hD hS hA (n := 1) (N' := 1) (by decide) (by decide) (by decide) (Nat.le_of_ble_eq_true rfl) (Nat.le_of_ble_eq_true rfl) d_Values_init_6 (fun q1 H hP hD hS => ?_)
  have hP : va_P D cL [(h, .inr (5, [.null, .null, .int 0])), (q1, .inl (cI, 1, .inl (fun _ => 0)))] H := hP
  have hD : va_D A [(h, .inr (5, [.null, .null, .int 0])), (q1, .inl (cI, 1, .inl (fun _ => 0)))] := hD
  refine W.widen (k := 1) (n := 1) (Nat.le_of_ble_eq_true rfl) (Nat.le_of_ble_eq_true rfl) ?_
  refine va_putF (D := D) (ci := 5) (v := .ref q1) (ty := .array .int) (C := "TaleMachine$Values") (T := F_Values) (N := 3) hx hb hts in_Values t_Values t_Values_ok n_Values hown hK hP hD hS 0 rfl rfl 0 (by decide) (hts _ k_111) (fun _ h9 => h9) rfl hin rfl (by decide +kernel) rfl rfl (Nat.le_of_ble_eq_true rfl) d_Values_init_8 (fun H locs hP hD hS => ?_)
  have hP : va_P D cL [(h, .inr (5, [.ref q1, .null, .int 0])), (q1, .inl (cI, 1, .inl (fun _ => 0)))] H := hP
  have hD : va_D A [(h, .inr (5, [.ref q1, .null, .int 0])), (q1, .inl (cI, 1, .inl (fun _ => 0)))] := hD
  refine lv_aload_n hx hb d_Values_init_11 rfl (lv_at hl 0 rfl) ?_
  refine lv_iload_n hx hb d_Values_init_12 rfl (lv_at hl 1 rfl) ?_
  refine nw_i hx hb (hts _ k_36) hK 0 rfl hP hD hS hA (n := 1) (N' := 1) (by decide) (by decide) (by decide) (Nat.le_of_ble_eq_true rfl) (Nat.le_of_ble_eq_true rfl) d_Values_init_13 (fun q2 H hP hD hS => ?_)
  have hP : va_P D cL [(h, .inr (5, [.ref q1, .null, .int 0])), (q1, .inl (cI, 1, .inl (fun _ => 0))), (q2, .inl (cI, 1, .inl (fun _ => 0)))] H := hP
  have hD : va_D A [(h, .inr (5, [.ref q1, .null, .int 0])), (q1, .inl (cI, 1, .inl (fun _ => 0))), (q2, .inl (cI, 1, .inl (fun _ => 0)))] := hD
  refine W.widen (k := 2) (n := 2) (Nat.le_of_ble_eq_true rfl) (Nat.le_of_ble_eq_true rfl) ?_
  refine va_putF (D := D) (ci := 5) (v := .ref q2) (ty := .array .int) (C := "TaleMachine$Values") (T := F_Values) (N := 3) hx hb hts in_Values t_Values t_Values_ok n_Values hown hK hP hD hS 0 rfl rfl 1 (by decide) (hts _ k_114) (fun _ h9 => h9) rfl hin rfl (by decide +kernel) rfl rfl (Nat.le_of_ble_eq_true rfl) d_Values_init_15 (fun H locs hP hD hS => ?_)
  have hP : va_P D cL [(h, .inr (5, [.ref q1, .ref q2, .int 0])), (q1, .inl (cI, 1, .inl (fun _ => 0))), (q2, .inl (cI, 1, .inl (fun _ => 0)))] H := hP
  have hD : va_D A [(h, .inr (5, [.ref q1, .ref q2, .int 0])), (q1, .inl (cI, 1, .inl (fun _ => 0))), (q2, .inl (cI, 1, .inl (fun _ => 0)))] := hD
  exact end_v hx hb hr hlocks hS (u := (q1, q2)) (at_end (hP.sub (ws' := [(h, .inr (5, [.ref q1, .ref q2, .int 0])), (q1, .inl (cI, 1, .inl (fun _ => 0))), (q2, .inl (cI, 1, .inl (fun _ => 0)))]) [0, 1, 2] rfl) (hD.sub (ws' := [(h, .inr (5, [.ref q1, .ref q2, .int 0])), (q1, .inl (cI, 1, .inl (fun _ => 0))), (q2, .inl (cI, 1, .inl (fun _ => 0)))]) [0, 1, 2] (by decide) rfl)) (trivial) (Nat.le_of_ble_eq_true rfl) (Nat.le_of_ble_eq_true rfl) d_Values_init_18

set_option maxHeartbeats 4000000 in
set_option maxRecDepth 100000 in
theorem k_State (l : Launch) (D : va_G) (cI cZ cJ : ClassId) (h : Nat) (sz : Nat)  : Met l y_State_init (.code y_State_init prog_5_method_1_code 1 none :: AW) ({ frames := 1, cells := 3, slots := 528, locals := 23 }) (va_Pc [.ref h] (pre_ D [(h, .inr (3, [.null, .null, .null]))] [(cI, .int), (cZ, .boolean), (cJ, .long)] sz)) (va_Qv (fun (u : Nat × Nat × Nat) => True) (fun u t => match u with | (kd, it, pa) => post_ D (va_A [(h, .inr (3, [.null, .null, .null]))] sz) [(h, .inr (3, [.ref kd, .ref it, .ref pa])), (kd, .inl (cI, 256, .inl (fun _ => -1))), (it, .inl (cI, 256, .inl (fun _ => 0))), (pa, .inl (cI, 16, .inl (fun _ => -1)))] t) (va_A [(h, .inr (3, [.null, .null, .null]))] sz)) 3 528 (va_A [(h, .inr (3, [.null, .null, .null]))] sz) := by
  refine Met.ofW (cc := prog_5_method_1_code) (maxL := 1) (ret := none) (by decide) rfl ?_
  intro p e s m args below meth c s₁ B hml hv
  obtain ⟨rfl, rfl, hP, hK, hD0, hT⟩ := hv
  have hx := B.exec
  have hb := B.bytes
  have hr := B.returns
  have hts0 := atoms_spec (ws := .code y_State_init prog_5_method_1_code 1 none :: AW) B.pre
  have hts : ∀ w ∈ AW, w.before [.ref h].toArray s = true := fun w h => hts0 w (List.mem_cons_of_mem _ h)
  have hown : s.vm.findClass "TaleMachine$State" = some m.cls := findClass_of_methodNamed B.named
  have hlocks := B.notSynchronized
  have hin : meth.name = "<init>" := (name_of_methodNamed B.named B.method).1
  have hD := hD0.self (sz := s.heap.size)
  generalize hAe : va_A [(h, .inr (3, [.null, .null, .null]))] s.heap.size = A at hD ⊢
  have hA : ∀ q : Nat, s.heap.size ≤ q → A q := fun q h => by rw [← hAe]; exact Or.inr h
  have hS : va_S A s.heap s.heap [] := va_S.rf
  have hl := lv_entry ([.ref h]) (n := 1) (Nat.le_of_ble_eq_true rfl)
  rw [lg_entry_eq]
  generalize (lg_sl ([.ref h]) ++ List.replicate (1 - (lg_sl ([.ref h])).length) Slot.unset).toArray = ls at hl ⊢
  have hl : lv_has ls 1 [(0, .ref h)] := hl
  refine lv_aload_n hx hb d_State_init_0 rfl (lv_at hl 0 rfl) ?_
  refine W.objInit hx hb hown (hts _ k_47) (hts _ k_25) (hts _ k_26) rfl (by rw [hml]; exact hl.1) rfl d_State_init_1 (Nat.le_of_ble_eq_true rfl) (Nat.le_of_ble_eq_true rfl) ?_
  refine W.eq (g2 := F0 m 4 ls []) rfl ?_
  refine lv_aload_n hx hb d_State_init_4 rfl (lv_at hl 0 rfl) ?_
  refine lv_sipush (v := 256) hx hb d_State_init_5 (by decide) ?_
  refine nw_i hx hb (hts _ k_36) hK 0 rfl hP hD hS hA (n := 256) (N' := 256) (by decide) (by decide) (by decide) (Nat.le_of_ble_eq_true rfl) (Nat.le_of_ble_eq_true rfl) d_State_init_8 (fun q1 H hP hD hS => ?_)
  have hP : va_P D cL [(h, .inr (3, [.null, .null, .null])), (q1, .inl (cI, 256, .inl (fun _ => 0)))] H := hP
  have hD : va_D A [(h, .inr (3, [.null, .null, .null])), (q1, .inl (cI, 256, .inl (fun _ => 0)))] := hD
  refine W.widen (k := 1) (n := 256) (Nat.le_of_ble_eq_true rfl) (Nat.le_of_ble_eq_true rfl) ?_
  refine va_putF (D := D) (ci := 3) (v := .ref q1) (ty := .array .int) (C := "TaleMachine$State") (T := F_State) (N := 3) hx hb hts in_State t_State t_State_ok n_State hown hK hP hD hS 0 rfl rfl 0 (by decide) (hts _ k_51) (fun _ h9 => h9) rfl hin rfl (by decide +kernel) rfl rfl (Nat.le_of_ble_eq_true rfl) d_State_init_10 (fun H locs hP hD hS => ?_)
  have hP : va_P D cL [(h, .inr (3, [.ref q1, .null, .null])), (q1, .inl (cI, 256, .inl (fun _ => 0)))] H := hP
  have hD : va_D A [(h, .inr (3, [.ref q1, .null, .null])), (q1, .inl (cI, 256, .inl (fun _ => 0)))] := hD
  refine lv_aload_n hx hb d_State_init_13 rfl (lv_at hl 0 rfl) ?_
  refine lv_sipush (v := 256) hx hb d_State_init_14 (by decide) ?_
  refine nw_i hx hb (hts _ k_36) hK 0 rfl hP hD hS hA (n := 256) (N' := 256) (by decide) (by decide) (by decide) (Nat.le_of_ble_eq_true rfl) (Nat.le_of_ble_eq_true rfl) d_State_init_17 (fun q2 H hP hD hS => ?_)
  have hP : va_P D cL [(h, .inr (3, [.ref q1, .null, .null])), (q1, .inl (cI, 256, .inl (fun _ => 0))), (q2, .inl (cI, 256, .inl (fun _ => 0)))] H := hP
  have hD : va_D A [(h, .inr (3, [.ref q1, .null, .null])), (q1, .inl (cI, 256, .inl (fun _ => 0))), (q2, .inl (cI, 256, .inl (fun _ => 0)))] := hD
  refine W.widen (k := 2) (n := 512) (Nat.le_of_ble_eq_true rfl) (Nat.le_of_ble_eq_true rfl) ?_
  refine va_putF (D := D) (ci := 3) (v := .ref q2) (ty := .array .int) (C := "TaleMachine$State") (T := F_State) (N := 3) hx hb hts in_State t_State t_State_ok n_State hown hK hP hD hS 0 rfl rfl 1 (by decide) (hts _ k_53) (fun _ h9 => h9) rfl hin rfl (by decide +kernel) rfl rfl (Nat.le_of_ble_eq_true rfl) d_State_init_19 (fun H locs hP hD hS => ?_)
  have hP : va_P D cL [(h, .inr (3, [.ref q1, .ref q2, .null])), (q1, .inl (cI, 256, .inl (fun _ => 0))), (q2, .inl (cI, 256, .inl (fun _ => 0)))] H := hP
  have hD : va_D A [(h, .inr (3, [.ref q1, .ref q2, .null])), (q1, .inl (cI, 256, .inl (fun _ => 0))), (q2, .inl (cI, 256, .inl (fun _ => 0)))] := hD
  refine lv_aload_n hx hb d_State_init_22 rfl (lv_at hl 0 rfl) ?_
  refine lv_bipush (v := 16) hx hb d_State_init_23 (by decide) ?_
  refine nw_i hx hb (hts _ k_36) hK 0 rfl hP hD hS hA (n := 16) (N' := 16) (by decide) (by decide) (by decide) (Nat.le_of_ble_eq_true rfl) (Nat.le_of_ble_eq_true rfl) d_State_init_25 (fun q3 H hP hD hS => ?_)
  have hP : va_P D cL [(h, .inr (3, [.ref q1, .ref q2, .null])), (q1, .inl (cI, 256, .inl (fun _ => 0))), (q2, .inl (cI, 256, .inl (fun _ => 0))), (q3, .inl (cI, 16, .inl (fun _ => 0)))] H := hP
  have hD : va_D A [(h, .inr (3, [.ref q1, .ref q2, .null])), (q1, .inl (cI, 256, .inl (fun _ => 0))), (q2, .inl (cI, 256, .inl (fun _ => 0))), (q3, .inl (cI, 16, .inl (fun _ => 0)))] := hD
  refine W.widen (k := 3) (n := 528) (Nat.le_of_ble_eq_true rfl) (Nat.le_of_ble_eq_true rfl) ?_
  refine va_putF (D := D) (ci := 3) (v := .ref q3) (ty := .array .int) (C := "TaleMachine$State") (T := F_State) (N := 3) hx hb hts in_State t_State t_State_ok n_State hown hK hP hD hS 0 rfl rfl 2 (by decide) (hts _ k_55) (fun _ h9 => h9) rfl hin rfl (by decide +kernel) rfl rfl (Nat.le_of_ble_eq_true rfl) d_State_init_27 (fun H locs hP hD hS => ?_)
  have hP : va_P D cL [(h, .inr (3, [.ref q1, .ref q2, .ref q3])), (q1, .inl (cI, 256, .inl (fun _ => 0))), (q2, .inl (cI, 256, .inl (fun _ => 0))), (q3, .inl (cI, 16, .inl (fun _ => 0)))] H := hP
  have hD : va_D A [(h, .inr (3, [.ref q1, .ref q2, .ref q3])), (q1, .inl (cI, 256, .inl (fun _ => 0))), (q2, .inl (cI, 256, .inl (fun _ => 0))), (q3, .inl (cI, 16, .inl (fun _ => 0)))] := hD
  refine lv_aload_n hx hb d_State_init_30 rfl (lv_at hl 0 rfl) ?_
  refine va_get (D := D) (ci := 3) (v := .ref q1) (C := "TaleMachine$State") (T := F_State) (N := 3) hx hb hts in_State hown hK hP 0 rfl rfl 0 (by decide) (hts _ k_51) (fun _ h9 => h9) rfl d_State_init_31 ?_
  refine lv_iconst (v := (-1)) hx hb d_State_init_34 (by decide) ?_
  refine mv_v (va_runS (As := [.ref q1, .int (-1)]) (rest := []) ⟨hx, hb, hml, hown, hts⟩ (c_fill l D cI cZ cJ q1 256 (fun _ => 0) (-1) _ (by first | assumption | omega | decide)) (va_cwS 2 hts (gInS k_48 k_49 k_5 k_50) rfl rfl rfl (by decide +kernel) ⟨Nat.le_of_ble_eq_true rfl, Nat.le_of_ble_eq_true rfl⟩) (pre_S (hP.sub [1] rfl) (hK.sub [0, 1, 2] rfl) (hD.sub [1] (by decide) rfl) hT) rfl rfl hl.1 rfl (lv_room (Nat.le_of_ble_eq_true rfl)) d_State_init_35 ⟨Nat.le_of_ble_eq_true rfl, Nat.le_of_ble_eq_true rfl⟩) hP hD hS hA [1] [0, 2, 3] rfl rfl (by decide) (by decide) (wr := [(h, .inr (3, [.ref q1, .ref q2, .ref q3])), (q2, .inl (cI, 256, .inl (fun _ => 0))), (q3, .inl (cI, 16, .inl (fun _ => 0)))]) (wn := fun _ => [(q1, .inl (cI, 256, .inl (fun _ => -1)))]) (fun _ _ h9 => h9) (fun _ H locs hp5 hP hD hS => ?_)
  have hP : va_P D cL [(h, .inr (3, [.ref q1, .ref q2, .ref q3])), (q2, .inl (cI, 256, .inl (fun _ => 0))), (q3, .inl (cI, 16, .inl (fun _ => 0))), (q1, .inl (cI, 256, .inl (fun _ => -1)))] H := hP
  have hD : va_D A [(h, .inr (3, [.ref q1, .ref q2, .ref q3])), (q2, .inl (cI, 256, .inl (fun _ => 0))), (q3, .inl (cI, 16, .inl (fun _ => 0))), (q1, .inl (cI, 256, .inl (fun _ => -1)))] := hD
  refine lv_aload_n hx hb d_State_init_38 rfl (lv_at hl 0 rfl) ?_
  refine va_get (D := D) (ci := 3) (v := .ref q3) (C := "TaleMachine$State") (T := F_State) (N := 3) hx hb hts in_State hown hK hP 0 rfl rfl 2 (by decide) (hts _ k_55) (fun _ h9 => h9) rfl d_State_init_39 ?_
  refine lv_iconst (v := (-1)) hx hb d_State_init_42 (by decide) ?_
  refine mv_v (va_runS (As := [.ref q3, .int (-1)]) (rest := []) ⟨hx, hb, hml, hown, hts⟩ (c_fill l D cI cZ cJ q3 16 (fun _ => 0) (-1) _ (by first | assumption | omega | decide)) (va_cwS 2 hts (gInS k_48 k_49 k_5 k_50) rfl rfl rfl (by decide +kernel) ⟨Nat.le_of_ble_eq_true rfl, Nat.le_of_ble_eq_true rfl⟩) (pre_S (hP.sub [2] rfl) (hK.sub [0, 1, 2] rfl) (hD.sub [2] (by decide) rfl) hT) rfl rfl hl.1 rfl (lv_room (Nat.le_of_ble_eq_true rfl)) d_State_init_43 ⟨Nat.le_of_ble_eq_true rfl, Nat.le_of_ble_eq_true rfl⟩) hP hD hS hA [2] [0, 1, 3] rfl rfl (by decide) (by decide) (wr := [(h, .inr (3, [.ref q1, .ref q2, .ref q3])), (q2, .inl (cI, 256, .inl (fun _ => 0))), (q1, .inl (cI, 256, .inl (fun _ => -1)))]) (wn := fun _ => [(q3, .inl (cI, 16, .inl (fun _ => -1)))]) (fun _ _ h9 => h9) (fun _ H locs hp7 hP hD hS => ?_)
  have hP : va_P D cL [(h, .inr (3, [.ref q1, .ref q2, .ref q3])), (q2, .inl (cI, 256, .inl (fun _ => 0))), (q1, .inl (cI, 256, .inl (fun _ => -1))), (q3, .inl (cI, 16, .inl (fun _ => -1)))] H := hP
  have hD : va_D A [(h, .inr (3, [.ref q1, .ref q2, .ref q3])), (q2, .inl (cI, 256, .inl (fun _ => 0))), (q1, .inl (cI, 256, .inl (fun _ => -1))), (q3, .inl (cI, 16, .inl (fun _ => -1)))] := hD
  exact end_v hx hb hr hlocks hS (u := (q1, q2, q3)) (at_end (hP.sub (ws' := [(h, .inr (3, [.ref q1, .ref q2, .ref q3])), (q1, .inl (cI, 256, .inl (fun _ => -1))), (q2, .inl (cI, 256, .inl (fun _ => 0))), (q3, .inl (cI, 16, .inl (fun _ => -1)))]) [0, 2, 1, 3] rfl) (hD.sub (ws' := [(h, .inr (3, [.ref q1, .ref q2, .ref q3])), (q1, .inl (cI, 256, .inl (fun _ => -1))), (q2, .inl (cI, 256, .inl (fun _ => 0))), (q3, .inl (cI, 16, .inl (fun _ => -1)))]) [0, 2, 1, 3] (by decide) rfl)) (trivial) (Nat.le_of_ble_eq_true rfl) (Nat.le_of_ble_eq_true rfl) d_State_init_46

set_option maxHeartbeats 4000000 in
set_option maxRecDepth 100000 in
theorem k_World (l : Launch) (D : va_G) (cI cZ cJ : ClassId) (h : Nat) (sz : Nat)  : Met l y_World_init (.code y_World_init prog_8_method_1_code 1 none :: AW) ({ frames := 2, cells := 8, slots := 867, locals := 43 }) (va_Pc [.ref h] (pre_ D [(h, .inr (6, [.null, .int 0, .null, .null, .null, .int 0, .null, .int 0, .int 0]))] [(cI, .int), (cZ, .boolean), (cJ, .long)] sz)) (va_Qv (fun (u : Nat × Nat × Nat × Nat × Nat × Nat × Nat × Nat) => True) (fun u t => match u with | (st, fl, fn, li, rc, kd, it, pa) => post_ D (va_A [(h, .inr (6, [.null, .int 0, .null, .null, .null, .int 0, .null, .int 0, .int 0]))] sz) [(h, .inr (6, [.ref st, .int 0, .ref fl, .ref fn, .ref li, .int 0, .ref rc, .int 0, .int 0])), (st, .inr (3, [.ref kd, .ref it, .ref pa])), (kd, .inl (cI, 256, .inl (fun _ => -1))), (it, .inl (cI, 256, .inl (fun _ => 0))), (pa, .inl (cI, 16, .inl (fun _ => -1))), (fl, .inl (cI, 256, .inl (fun _ => 0))), (fn, .inl (cI, 16, .inl (fun _ => 0))), (li, .inl (cI, 32, .inl (fun _ => 0))), (rc, .inl (cI, 32, .inl (fun _ => 0)))] t) (va_A [(h, .inr (6, [.null, .int 0, .null, .null, .null, .int 0, .null, .int 0, .int 0]))] sz)) 8 867 (va_A [(h, .inr (6, [.null, .int 0, .null, .null, .null, .int 0, .null, .int 0, .int 0]))] sz) := by
  refine Met.ofW (cc := prog_8_method_1_code) (maxL := 1) (ret := none) (by decide) rfl ?_
  intro p e s m args below meth c s₁ B hml hv
  obtain ⟨rfl, rfl, hP, hK, hD0, hT⟩ := hv
  have hx := B.exec
  have hb := B.bytes
  have hr := B.returns
  have hts0 := atoms_spec (ws := .code y_World_init prog_8_method_1_code 1 none :: AW) B.pre
  have hts : ∀ w ∈ AW, w.before [.ref h].toArray s = true := fun w h => hts0 w (List.mem_cons_of_mem _ h)
  have hown : s.vm.findClass "TaleMachine$World" = some m.cls := findClass_of_methodNamed B.named
  have hlocks := B.notSynchronized
  have hin : meth.name = "<init>" := (name_of_methodNamed B.named B.method).1
  have hD := hD0.self (sz := s.heap.size)
  generalize hAe : va_A [(h, .inr (6, [.null, .int 0, .null, .null, .null, .int 0, .null, .int 0, .int 0]))] s.heap.size = A at hD ⊢
  have hA : ∀ q : Nat, s.heap.size ≤ q → A q := fun q h => by rw [← hAe]; exact Or.inr h
  have hS : va_S A s.heap s.heap [] := va_S.rf
  have hl := lv_entry ([.ref h]) (n := 1) (Nat.le_of_ble_eq_true rfl)
  rw [lg_entry_eq]
  generalize (lg_sl ([.ref h]) ++ List.replicate (1 - (lg_sl ([.ref h])).length) Slot.unset).toArray = ls at hl ⊢
  have hl : lv_has ls 1 [(0, .ref h)] := hl
  refine lv_aload_n hx hb d_World_init_0 rfl (lv_at hl 0 rfl) ?_
  refine W.objInit hx hb hown (hts _ k_41) (hts _ k_25) (hts _ k_26) rfl (by rw [hml]; exact hl.1) rfl d_World_init_1 (Nat.le_of_ble_eq_true rfl) (Nat.le_of_ble_eq_true rfl) ?_
  refine W.eq (g2 := F0 m 4 ls []) rfl ?_
  refine lv_aload_n hx hb d_World_init_4 rfl (lv_at hl 0 rfl) ?_
  refine va_new (ci := 3) (fs := [.null, .null, .null]) (C := "TaleMachine$State") (T := F_State) (N := 3) hx hb hts in_State t_State t_State_ok hown (hts _ k_42) (hts _ k_43) (hts _ k_4) hK hP hD hS hA rfl dv_State (Nat.le_of_ble_eq_true rfl) (Nat.le_of_ble_eq_true rfl) d_World_init_5 (fun q1 H hP hD hS => ?_)
  have hP : va_P D cL [(h, .inr (6, [.null, .int 0, .null, .null, .null, .int 0, .null, .int 0, .int 0])), (q1, .inr (3, [.null, .null, .null]))] H := hP
  have hD : va_D A [(h, .inr (6, [.null, .int 0, .null, .null, .null, .int 0, .null, .int 0, .int 0])), (q1, .inr (3, [.null, .null, .null]))] := hD
  refine W.widen (k := 1) (n := 3) (Nat.le_of_ble_eq_true rfl) (Nat.le_of_ble_eq_true rfl) ?_
  refine lv_dup hx hb d_World_init_8 rfl ?_
  refine mv_v (va_runI (As := []) (rest := [.ref q1, .ref h]) ⟨hx, hb, hml, hown, hts⟩ (k_State l D cI cZ cJ q1 _ ) (cwI 0 hts (gIn k_46) rfl rfl rfl (hts _ k_4) (hts _ k_44) (hts _ k_45) rfl (by decide +kernel) ⟨Nat.le_of_ble_eq_true rfl, Nat.le_of_ble_eq_true rfl⟩) (pre_S (hP.sub [1] rfl) (hK.sub [0, 1, 2] rfl) (hD.sub [1] (by decide) rfl) hT) rfl rfl hl.1 rfl (lv_room (Nat.le_of_ble_eq_true rfl)) d_World_init_9 ⟨Nat.le_of_ble_eq_true rfl, Nat.le_of_ble_eq_true rfl⟩) hP hD hS hA [1] [0] rfl rfl (by decide) (by decide) (wr := [(h, .inr (6, [.null, .int 0, .null, .null, .null, .int 0, .null, .int 0, .int 0]))]) (wn := fun u => match u with | (kd, it, pa) => [(q1, .inr (3, [.ref kd, .ref it, .ref pa])), (kd, .inl (cI, 256, .inl (fun _ => -1))), (it, .inl (cI, 256, .inl (fun _ => 0))), (pa, .inl (cI, 16, .inl (fun _ => -1)))]) (fun _ _ h9 => h9) (fun u H locs hp6 hP hD hS => ?_)
  obtain ⟨a2, a3, a4⟩ := u
  have hP : va_P D cL [(h, .inr (6, [.null, .int 0, .null, .null, .null, .int 0, .null, .int 0, .int 0])), (q1, .inr (3, [.ref a2, .ref a3, .ref a4])), (a2, .inl (cI, 256, .inl (fun _ => -1))), (a3, .inl (cI, 256, .inl (fun _ => 0))), (a4, .inl (cI, 16, .inl (fun _ => -1)))] H := hP
  have hD : va_D A [(h, .inr (6, [.null, .int 0, .null, .null, .null, .int 0, .null, .int 0, .int 0])), (q1, .inr (3, [.ref a2, .ref a3, .ref a4])), (a2, .inl (cI, 256, .inl (fun _ => -1))), (a3, .inl (cI, 256, .inl (fun _ => 0))), (a4, .inl (cI, 16, .inl (fun _ => -1)))] := hD
  refine W.widen (k := 4) (n := 531) (Nat.le_of_ble_eq_true rfl) (Nat.le_of_ble_eq_true rfl) ?_
  refine va_putF (D := D) (ci := 6) (v := .ref q1) (ty := .object "TaleMachine$State") (C := "TaleMachine$World") (T := F_World) (N := 9) hx hb hts in_World t_World t_World_ok n_World hown hK hP hD hS 0 rfl rfl 0 (by decide) (hts _ k_60) (fun _ h9 => h9) rfl hin rfl (by decide +kernel) rfl rfl (Nat.le_of_ble_eq_true rfl) d_World_init_12 (fun H locs hP hD hS => ?_)
  have hP : va_P D cL [(h, .inr (6, [.ref q1, .int 0, .null, .null, .null, .int 0, .null, .int 0, .int 0])), (q1, .inr (3, [.ref a2, .ref a3, .ref a4])), (a2, .inl (cI, 256, .inl (fun _ => -1))), (a3, .inl (cI, 256, .inl (fun _ => 0))), (a4, .inl (cI, 16, .inl (fun _ => -1)))] H := hP
  have hD : va_D A [(h, .inr (6, [.ref q1, .int 0, .null, .null, .null, .int 0, .null, .int 0, .int 0])), (q1, .inr (3, [.ref a2, .ref a3, .ref a4])), (a2, .inl (cI, 256, .inl (fun _ => -1))), (a3, .inl (cI, 256, .inl (fun _ => 0))), (a4, .inl (cI, 16, .inl (fun _ => -1)))] := hD
  refine lv_aload_n hx hb d_World_init_15 rfl (lv_at hl 0 rfl) ?_
  refine lv_sipush (v := 256) hx hb d_World_init_16 (by decide) ?_
  refine nw_i hx hb (hts _ k_36) hK 0 rfl hP hD hS hA (n := 256) (N' := 256) (by decide) (by decide) (by decide) (Nat.le_of_ble_eq_true rfl) (Nat.le_of_ble_eq_true rfl) d_World_init_19 (fun q7 H hP hD hS => ?_)
  have hP : va_P D cL [(h, .inr (6, [.ref q1, .int 0, .null, .null, .null, .int 0, .null, .int 0, .int 0])), (q1, .inr (3, [.ref a2, .ref a3, .ref a4])), (a2, .inl (cI, 256, .inl (fun _ => -1))), (a3, .inl (cI, 256, .inl (fun _ => 0))), (a4, .inl (cI, 16, .inl (fun _ => -1))), (q7, .inl (cI, 256, .inl (fun _ => 0)))] H := hP
  have hD : va_D A [(h, .inr (6, [.ref q1, .int 0, .null, .null, .null, .int 0, .null, .int 0, .int 0])), (q1, .inr (3, [.ref a2, .ref a3, .ref a4])), (a2, .inl (cI, 256, .inl (fun _ => -1))), (a3, .inl (cI, 256, .inl (fun _ => 0))), (a4, .inl (cI, 16, .inl (fun _ => -1))), (q7, .inl (cI, 256, .inl (fun _ => 0)))] := hD
  refine W.widen (k := 5) (n := 787) (Nat.le_of_ble_eq_true rfl) (Nat.le_of_ble_eq_true rfl) ?_
  refine va_putF (D := D) (ci := 6) (v := .ref q7) (ty := .array .int) (C := "TaleMachine$World") (T := F_World) (N := 9) hx hb hts in_World t_World t_World_ok n_World hown hK hP hD hS 0 rfl rfl 2 (by decide) (hts _ k_64) (fun _ h9 => h9) rfl hin rfl (by decide +kernel) rfl rfl (Nat.le_of_ble_eq_true rfl) d_World_init_21 (fun H locs hP hD hS => ?_)
  have hP : va_P D cL [(h, .inr (6, [.ref q1, .int 0, .ref q7, .null, .null, .int 0, .null, .int 0, .int 0])), (q1, .inr (3, [.ref a2, .ref a3, .ref a4])), (a2, .inl (cI, 256, .inl (fun _ => -1))), (a3, .inl (cI, 256, .inl (fun _ => 0))), (a4, .inl (cI, 16, .inl (fun _ => -1))), (q7, .inl (cI, 256, .inl (fun _ => 0)))] H := hP
  have hD : va_D A [(h, .inr (6, [.ref q1, .int 0, .ref q7, .null, .null, .int 0, .null, .int 0, .int 0])), (q1, .inr (3, [.ref a2, .ref a3, .ref a4])), (a2, .inl (cI, 256, .inl (fun _ => -1))), (a3, .inl (cI, 256, .inl (fun _ => 0))), (a4, .inl (cI, 16, .inl (fun _ => -1))), (q7, .inl (cI, 256, .inl (fun _ => 0)))] := hD
  refine lv_aload_n hx hb d_World_init_24 rfl (lv_at hl 0 rfl) ?_
  refine lv_bipush (v := 16) hx hb d_World_init_25 (by decide) ?_
  refine nw_i hx hb (hts _ k_36) hK 0 rfl hP hD hS hA (n := 16) (N' := 16) (by decide) (by decide) (by decide) (Nat.le_of_ble_eq_true rfl) (Nat.le_of_ble_eq_true rfl) d_World_init_27 (fun q8 H hP hD hS => ?_)
  have hP : va_P D cL [(h, .inr (6, [.ref q1, .int 0, .ref q7, .null, .null, .int 0, .null, .int 0, .int 0])), (q1, .inr (3, [.ref a2, .ref a3, .ref a4])), (a2, .inl (cI, 256, .inl (fun _ => -1))), (a3, .inl (cI, 256, .inl (fun _ => 0))), (a4, .inl (cI, 16, .inl (fun _ => -1))), (q7, .inl (cI, 256, .inl (fun _ => 0))), (q8, .inl (cI, 16, .inl (fun _ => 0)))] H := hP
  have hD : va_D A [(h, .inr (6, [.ref q1, .int 0, .ref q7, .null, .null, .int 0, .null, .int 0, .int 0])), (q1, .inr (3, [.ref a2, .ref a3, .ref a4])), (a2, .inl (cI, 256, .inl (fun _ => -1))), (a3, .inl (cI, 256, .inl (fun _ => 0))), (a4, .inl (cI, 16, .inl (fun _ => -1))), (q7, .inl (cI, 256, .inl (fun _ => 0))), (q8, .inl (cI, 16, .inl (fun _ => 0)))] := hD
  refine W.widen (k := 6) (n := 803) (Nat.le_of_ble_eq_true rfl) (Nat.le_of_ble_eq_true rfl) ?_
  refine va_putF (D := D) (ci := 6) (v := .ref q8) (ty := .array .int) (C := "TaleMachine$World") (T := F_World) (N := 9) hx hb hts in_World t_World t_World_ok n_World hown hK hP hD hS 0 rfl rfl 3 (by decide) (hts _ k_65) (fun _ h9 => h9) rfl hin rfl (by decide +kernel) rfl rfl (Nat.le_of_ble_eq_true rfl) d_World_init_29 (fun H locs hP hD hS => ?_)
  have hP : va_P D cL [(h, .inr (6, [.ref q1, .int 0, .ref q7, .ref q8, .null, .int 0, .null, .int 0, .int 0])), (q1, .inr (3, [.ref a2, .ref a3, .ref a4])), (a2, .inl (cI, 256, .inl (fun _ => -1))), (a3, .inl (cI, 256, .inl (fun _ => 0))), (a4, .inl (cI, 16, .inl (fun _ => -1))), (q7, .inl (cI, 256, .inl (fun _ => 0))), (q8, .inl (cI, 16, .inl (fun _ => 0)))] H := hP
  have hD : va_D A [(h, .inr (6, [.ref q1, .int 0, .ref q7, .ref q8, .null, .int 0, .null, .int 0, .int 0])), (q1, .inr (3, [.ref a2, .ref a3, .ref a4])), (a2, .inl (cI, 256, .inl (fun _ => -1))), (a3, .inl (cI, 256, .inl (fun _ => 0))), (a4, .inl (cI, 16, .inl (fun _ => -1))), (q7, .inl (cI, 256, .inl (fun _ => 0))), (q8, .inl (cI, 16, .inl (fun _ => 0)))] := hD
  refine lv_aload_n hx hb d_World_init_32 rfl (lv_at hl 0 rfl) ?_
  refine lv_bipush (v := 32) hx hb d_World_init_33 (by decide) ?_
  refine nw_i hx hb (hts _ k_36) hK 0 rfl hP hD hS hA (n := 32) (N' := 32) (by decide) (by decide) (by decide) (Nat.le_of_ble_eq_true rfl) (Nat.le_of_ble_eq_true rfl) d_World_init_35 (fun q9 H hP hD hS => ?_)
  have hP : va_P D cL [(h, .inr (6, [.ref q1, .int 0, .ref q7, .ref q8, .null, .int 0, .null, .int 0, .int 0])), (q1, .inr (3, [.ref a2, .ref a3, .ref a4])), (a2, .inl (cI, 256, .inl (fun _ => -1))), (a3, .inl (cI, 256, .inl (fun _ => 0))), (a4, .inl (cI, 16, .inl (fun _ => -1))), (q7, .inl (cI, 256, .inl (fun _ => 0))), (q8, .inl (cI, 16, .inl (fun _ => 0))), (q9, .inl (cI, 32, .inl (fun _ => 0)))] H := hP
  have hD : va_D A [(h, .inr (6, [.ref q1, .int 0, .ref q7, .ref q8, .null, .int 0, .null, .int 0, .int 0])), (q1, .inr (3, [.ref a2, .ref a3, .ref a4])), (a2, .inl (cI, 256, .inl (fun _ => -1))), (a3, .inl (cI, 256, .inl (fun _ => 0))), (a4, .inl (cI, 16, .inl (fun _ => -1))), (q7, .inl (cI, 256, .inl (fun _ => 0))), (q8, .inl (cI, 16, .inl (fun _ => 0))), (q9, .inl (cI, 32, .inl (fun _ => 0)))] := hD
  refine W.widen (k := 7) (n := 835) (Nat.le_of_ble_eq_true rfl) (Nat.le_of_ble_eq_true rfl) ?_
  refine va_putF (D := D) (ci := 6) (v := .ref q9) (ty := .array .int) (C := "TaleMachine$World") (T := F_World) (N := 9) hx hb hts in_World t_World t_World_ok n_World hown hK hP hD hS 0 rfl rfl 4 (by decide) (hts _ k_66) (fun _ h9 => h9) rfl hin rfl (by decide +kernel) rfl rfl (Nat.le_of_ble_eq_true rfl) d_World_init_37 (fun H locs hP hD hS => ?_)
  have hP : va_P D cL [(h, .inr (6, [.ref q1, .int 0, .ref q7, .ref q8, .ref q9, .int 0, .null, .int 0, .int 0])), (q1, .inr (3, [.ref a2, .ref a3, .ref a4])), (a2, .inl (cI, 256, .inl (fun _ => -1))), (a3, .inl (cI, 256, .inl (fun _ => 0))), (a4, .inl (cI, 16, .inl (fun _ => -1))), (q7, .inl (cI, 256, .inl (fun _ => 0))), (q8, .inl (cI, 16, .inl (fun _ => 0))), (q9, .inl (cI, 32, .inl (fun _ => 0)))] H := hP
  have hD : va_D A [(h, .inr (6, [.ref q1, .int 0, .ref q7, .ref q8, .ref q9, .int 0, .null, .int 0, .int 0])), (q1, .inr (3, [.ref a2, .ref a3, .ref a4])), (a2, .inl (cI, 256, .inl (fun _ => -1))), (a3, .inl (cI, 256, .inl (fun _ => 0))), (a4, .inl (cI, 16, .inl (fun _ => -1))), (q7, .inl (cI, 256, .inl (fun _ => 0))), (q8, .inl (cI, 16, .inl (fun _ => 0))), (q9, .inl (cI, 32, .inl (fun _ => 0)))] := hD
  refine lv_aload_n hx hb d_World_init_40 rfl (lv_at hl 0 rfl) ?_
  refine lv_bipush (v := 32) hx hb d_World_init_41 (by decide) ?_
  refine nw_i hx hb (hts _ k_36) hK 0 rfl hP hD hS hA (n := 32) (N' := 32) (by decide) (by decide) (by decide) (Nat.le_of_ble_eq_true rfl) (Nat.le_of_ble_eq_true rfl) d_World_init_43 (fun q10 H hP hD hS => ?_)
  have hP : va_P D cL [(h, .inr (6, [.ref q1, .int 0, .ref q7, .ref q8, .ref q9, .int 0, .null, .int 0, .int 0])), (q1, .inr (3, [.ref a2, .ref a3, .ref a4])), (a2, .inl (cI, 256, .inl (fun _ => -1))), (a3, .inl (cI, 256, .inl (fun _ => 0))), (a4, .inl (cI, 16, .inl (fun _ => -1))), (q7, .inl (cI, 256, .inl (fun _ => 0))), (q8, .inl (cI, 16, .inl (fun _ => 0))), (q9, .inl (cI, 32, .inl (fun _ => 0))), (q10, .inl (cI, 32, .inl (fun _ => 0)))] H := hP
  have hD : va_D A [(h, .inr (6, [.ref q1, .int 0, .ref q7, .ref q8, .ref q9, .int 0, .null, .int 0, .int 0])), (q1, .inr (3, [.ref a2, .ref a3, .ref a4])), (a2, .inl (cI, 256, .inl (fun _ => -1))), (a3, .inl (cI, 256, .inl (fun _ => 0))), (a4, .inl (cI, 16, .inl (fun _ => -1))), (q7, .inl (cI, 256, .inl (fun _ => 0))), (q8, .inl (cI, 16, .inl (fun _ => 0))), (q9, .inl (cI, 32, .inl (fun _ => 0))), (q10, .inl (cI, 32, .inl (fun _ => 0)))] := hD
  refine W.widen (k := 8) (n := 867) (Nat.le_of_ble_eq_true rfl) (Nat.le_of_ble_eq_true rfl) ?_
  refine va_putF (D := D) (ci := 6) (v := .ref q10) (ty := .array .int) (C := "TaleMachine$World") (T := F_World) (N := 9) hx hb hts in_World t_World t_World_ok n_World hown hK hP hD hS 0 rfl rfl 6 (by decide) (hts _ k_68) (fun _ h9 => h9) rfl hin rfl (by decide +kernel) rfl rfl (Nat.le_of_ble_eq_true rfl) d_World_init_45 (fun H locs hP hD hS => ?_)
  have hP : va_P D cL [(h, .inr (6, [.ref q1, .int 0, .ref q7, .ref q8, .ref q9, .int 0, .ref q10, .int 0, .int 0])), (q1, .inr (3, [.ref a2, .ref a3, .ref a4])), (a2, .inl (cI, 256, .inl (fun _ => -1))), (a3, .inl (cI, 256, .inl (fun _ => 0))), (a4, .inl (cI, 16, .inl (fun _ => -1))), (q7, .inl (cI, 256, .inl (fun _ => 0))), (q8, .inl (cI, 16, .inl (fun _ => 0))), (q9, .inl (cI, 32, .inl (fun _ => 0))), (q10, .inl (cI, 32, .inl (fun _ => 0)))] H := hP
  have hD : va_D A [(h, .inr (6, [.ref q1, .int 0, .ref q7, .ref q8, .ref q9, .int 0, .ref q10, .int 0, .int 0])), (q1, .inr (3, [.ref a2, .ref a3, .ref a4])), (a2, .inl (cI, 256, .inl (fun _ => -1))), (a3, .inl (cI, 256, .inl (fun _ => 0))), (a4, .inl (cI, 16, .inl (fun _ => -1))), (q7, .inl (cI, 256, .inl (fun _ => 0))), (q8, .inl (cI, 16, .inl (fun _ => 0))), (q9, .inl (cI, 32, .inl (fun _ => 0))), (q10, .inl (cI, 32, .inl (fun _ => 0)))] := hD
  exact end_v hx hb hr hlocks hS (u := (q1, q7, q8, q9, q10, a2, a3, a4)) (at_end (hP.sub (ws' := [(h, .inr (6, [.ref q1, .int 0, .ref q7, .ref q8, .ref q9, .int 0, .ref q10, .int 0, .int 0])), (q1, .inr (3, [.ref a2, .ref a3, .ref a4])), (a2, .inl (cI, 256, .inl (fun _ => -1))), (a3, .inl (cI, 256, .inl (fun _ => 0))), (a4, .inl (cI, 16, .inl (fun _ => -1))), (q7, .inl (cI, 256, .inl (fun _ => 0))), (q8, .inl (cI, 16, .inl (fun _ => 0))), (q9, .inl (cI, 32, .inl (fun _ => 0))), (q10, .inl (cI, 32, .inl (fun _ => 0)))]) [0, 1, 2, 3, 4, 5, 6, 7, 8] rfl) (hD.sub (ws' := [(h, .inr (6, [.ref q1, .int 0, .ref q7, .ref q8, .ref q9, .int 0, .ref q10, .int 0, .int 0])), (q1, .inr (3, [.ref a2, .ref a3, .ref a4])), (a2, .inl (cI, 256, .inl (fun _ => -1))), (a3, .inl (cI, 256, .inl (fun _ => 0))), (a4, .inl (cI, 16, .inl (fun _ => -1))), (q7, .inl (cI, 256, .inl (fun _ => 0))), (q8, .inl (cI, 16, .inl (fun _ => 0))), (q9, .inl (cI, 32, .inl (fun _ => 0))), (q10, .inl (cI, 32, .inl (fun _ => 0)))]) [0, 1, 2, 3, 4, 5, 6, 7, 8] (by decide) rfl)) (trivial) (Nat.le_of_ble_eq_true rfl) (Nat.le_of_ble_eq_true rfl) d_World_init_48
