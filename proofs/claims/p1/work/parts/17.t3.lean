set_option maxHeartbeats 4000000 in
set_option maxRecDepth 100000 in
theorem c_Script_append_1 (l : Launch) (D : va_G) (cI cZ cJ : ClassId) (h by_ : Nat) (wd : Int32) (sz : Nat)  : Met l y_Script_append (.code y_Script_append prog_4_method_2_code 4 (some .boolean) :: AW) ({ frames := 0, cells := 0, slots := 0, locals := 0 }) (va_Pc [.ref h, .int wd, .int 1] (pre_ D [(h, .inr (2, [.ref by_, .int 0])), (by_, .inl (cI, 300, .inl (fun _ => 0)))] [(cI, .int), (cZ, .boolean), (cJ, .long)] sz)) (va_Qi (fun (r : Int32) (u : Unit) => r = 1) (fun _ t => post_ D (va_A [(h, .inr (2, [.ref by_, .int 0])), (by_, .inl (cI, 300, .inl (fun _ => 0)))] sz) [] t) (va_A [(h, .inr (2, [.ref by_, .int 0])), (by_, .inl (cI, 300, .inl (fun _ => 0)))] sz)) 0 0 (va_A [(h, .inr (2, [.ref by_, .int 0])), (by_, .inl (cI, 300, .inl (fun _ => 0)))] sz) := by
  refine Met.ofW (cc := prog_4_method_2_code) (maxL := 4) (ret := (some .boolean)) (by decide) rfl ?_
  intro p e s m args below meth c s₁ B hml hv
  obtain ⟨rfl, rfl, hP, hK, hD0, hT⟩ := hv
  have hx := B.exec
  have hb := B.bytes
  have hr := B.returns
  have hts0 := atoms_spec (ws := .code y_Script_append prog_4_method_2_code 4 (some .boolean) :: AW) B.pre
  have hts : ∀ w ∈ AW, w.before [.ref h, .int wd, .int 1].toArray s = true := fun w h => hts0 w (List.mem_cons_of_mem _ h)
  have hown : s.vm.findClass "TaleMachine$Script" = some m.cls := findClass_of_methodNamed B.named
  have hlocks := B.notSynchronized
  have hD := hD0.self (sz := s.heap.size)
  generalize hAe : va_A [(h, .inr (2, [.ref by_, .int 0])), (by_, .inl (cI, 300, .inl (fun _ => 0)))] s.heap.size = A at hD ⊢
  have hA : ∀ q : Nat, s.heap.size ≤ q → A q := fun q h => by rw [← hAe]; exact Or.inr h
  have hS : va_S A s.heap s.heap [] := va_S.rf
  have hl := lv_entry ([.ref h, .int wd, .int 1]) (n := 4) (Nat.le_of_ble_eq_true rfl)
  rw [lg_entry_eq]
  generalize (lg_sl ([.ref h, .int wd, .int 1]) ++ List.replicate (4 - (lg_sl ([.ref h, .int wd, .int 1])).length) Slot.unset).toArray = ls at hl ⊢
  have hl : lv_has ls 4 [(0, .ref h), (1, .int wd), (2, .int 1)] := hl
  refine lv_iload_n hx hb d_Script_append_0 rfl (lv_at hl 2 rfl) ?_
  refine lv_iconst (v := 1) hx hb d_Script_append_1 (by decide) ?_
  refine lv_icmp_lt hx hb d_Script_append_2 (tgt := 22) (by decide) (fun hz => absurd hz (by decide)) (fun _ => ?_)
  refine lv_iload_n hx hb d_Script_append_5 rfl (lv_at hl 2 rfl) ?_
  refine lv_iconst (v := 4) hx hb d_Script_append_6 (by decide) ?_
  refine lv_icmp_gt hx hb d_Script_append_7 (tgt := 22) (by decide) (fun hz => absurd hz (by decide)) (fun _ => ?_)
  refine lv_aload_n hx hb d_Script_append_10 rfl (lv_at hl 0 rfl) ?_
  refine va_get (D := D) (ci := 2) (v := .int 0) (C := "TaleMachine$Script") (T := F_Script) (N := 2) hx hb hts in_Script hown hK hP 0 rfl rfl 1 (by decide) (hts _ k_124) (fun _ h9 => h9) rfl d_Script_append_11 ?_
  refine lv_iload_n hx hb d_Script_append_14 rfl (lv_at hl 2 rfl) ?_
  refine lv_iadd hx hb d_Script_append_15 ?_
  refine lv_topi (fun z1 hz1 => ?_)
  obtain rfl : z1 = 1 := hz1.trans (by decide)
  refine lv_sipush (v := 300) hx hb d_Script_append_16 (by decide) ?_
  refine lv_icmp_le hx hb d_Script_append_19 (tgt := 24) (by decide) (fun _ => ?_) (fun hz => absurd (by decide) hz)
  refine lv_iload_n hx hb d_Script_append_24 rfl (lv_at hl 2 rfl) ?_
  refine lv_iconst (v := 1) hx hb d_Script_append_25 (by decide) ?_
  refine lv_isub hx hb d_Script_append_26 ?_
  refine lv_topi (fun z2 hz2 => ?_)
  obtain rfl : z2 = 0 := hz2.trans (by decide)
  refine lv_istore_n (lv' := [(3, .int 0), (0, .ref h), (1, .int wd), (2, .int 1)]) hx hb d_Script_append_27 rfl hl (by decide) rfl (fun ls hl => ?_)
  refine lv_iload_n hx hb d_Script_append_28 rfl (lv_at hl 0 rfl) ?_
  refine lv_if_lt hx hb d_Script_append_29 (tgt := 67) (by decide) (fun hz => absurd hz (by decide)) (fun _ => ?_)
  refine lv_aload_n hx hb d_Script_append_32 rfl (lv_at hl 1 rfl) ?_
  refine va_get (D := D) (ci := 2) (v := .ref by_) (C := "TaleMachine$Script") (T := F_Script) (N := 2) hx hb hts in_Script hown hK hP 0 rfl rfl 0 (by decide) (hts _ k_45) (fun _ h9 => h9) rfl d_Script_append_33 ?_
  refine lv_aload_n hx hb d_Script_append_36 rfl (lv_at hl 1 rfl) ?_
  refine va_get (D := D) (ci := 2) (v := .int 0) (C := "TaleMachine$Script") (T := F_Script) (N := 2) hx hb hts in_Script hown hK hP 0 rfl rfl 1 (by decide) (hts _ k_124) (fun _ h9 => h9) rfl d_Script_append_37 ?_
  refine lv_iload_n hx hb d_Script_append_40 rfl (lv_at hl 2 rfl) ?_
  refine lv_bipush (v := 8) hx hb d_Script_append_41 (by decide) ?_
  refine lv_iload_n hx hb d_Script_append_43 rfl (lv_at hl 0 rfl) ?_
  refine lv_imul hx hb d_Script_append_44 ?_
  refine lv_topi (fun z3 hz3 => ?_)
  obtain rfl : z3 = 0 := hz3.trans (by decide)
  refine lv_iushr hx hb d_Script_append_45 rfl ?_
  refine lv_topi (fun z4 hz4 => ?_)
  refine lv_sipush (v := 255) hx hb d_Script_append_46 (by decide) ?_
  refine lv_iand hx hb d_Script_append_49 ?_
  refine lv_topi (fun z5 hz5 => ?_)
  refine va_iast hx hb hK hP hD hS 1 0 rfl rfl (i := 0) (x := z5) (in_c (by decide)) d_Script_append_50 (fun H locs hP hD hS => ?_)
  have hP : va_P D cL [(h, .inr (2, [.ref by_, .int 0])), (by_, .inl (cI, 300, .inl (upd (fun _ => 0) (0 : Int32).toNatClampNeg z5)))] H := hP
  have hD : va_D A [(h, .inr (2, [.ref by_, .int 0])), (by_, .inl (cI, 300, .inl (upd (fun _ => 0) (0 : Int32).toNatClampNeg z5)))] := hD
  generalize hff6 : upd (fun _ => 0) (0 : Int32).toNatClampNeg z5 = f6 at hP hD
  refine lv_aload_n hx hb d_Script_append_51 rfl (lv_at hl 1 rfl) ?_
  refine lv_dup hx hb d_Script_append_52 rfl ?_
  refine va_get (D := D) (ci := 2) (v := .int 0) (C := "TaleMachine$Script") (T := F_Script) (N := 2) hx hb hts in_Script hown hK hP 0 rfl rfl 1 (by decide) (hts _ k_124) (fun _ h9 => h9) rfl d_Script_append_53 ?_
  refine lv_iconst (v := 1) hx hb d_Script_append_56 (by decide) ?_
  refine lv_iadd hx hb d_Script_append_57 ?_
  refine lv_topi (fun z7 hz7 => ?_)
  obtain rfl : z7 = 1 := hz7.trans (by decide)
  refine va_put (D := D) (ci := 2) (v := .int 1) (ty := .int) (C := "TaleMachine$Script") (T := F_Script) (N := 2) hx hb hts in_Script t_Script t_Script_ok n_Script hown hK hP hD hS 0 rfl rfl 1 (by decide) (hts _ k_124) (fun _ h9 => h9) rfl (by decide +kernel) rfl rfl (Nat.le_of_ble_eq_true rfl) d_Script_append_58 (fun H locs hP hD hS => ?_)
  have hP : va_P D cL [(h, .inr (2, [.ref by_, .int 1])), (by_, .inl (cI, 300, .inl f6))] H := hP
  have hD : va_D A [(h, .inr (2, [.ref by_, .int 1])), (by_, .inl (cI, 300, .inl f6))] := hD
  refine lv_iinc (v := (-1)) (lv' := [(3, .int (-1)), (0, .ref h), (1, .int wd), (2, .int 1)]) hx hb d_Script_append_61 hl (k := 0) rfl (by decide) (by decide) rfl (fun ls hl => ?_)
  refine lv_goto hx hb d_Script_append_64 (tgt := 28) (by decide) ?_
  refine lv_iload_n hx hb d_Script_append_28 rfl (lv_at hl 0 rfl) ?_
  refine lv_if_lt hx hb d_Script_append_29 (tgt := 67) (by decide) (fun _ => ?_) (fun hz => absurd (by decide) hz)
  refine lv_iconst (v := 1) hx hb d_Script_append_67 (by decide) ?_
  exact end_z hx hb hr hlocks hS (u := ()) (r := 1) (at_end (hP.sub (ws' := []) [] rfl) (hD.sub (ws' := []) [] (by decide) rfl)) (rfl) (by decide) (Nat.le_of_ble_eq_true rfl) (Nat.le_of_ble_eq_true rfl) d_Script_append_68

set_option maxHeartbeats 4000000 in
set_option maxRecDepth 100000 in
theorem c_TM_code_1 (l : Launch) (D : va_G) (cI cZ cJ : ClassId) (h sc by_ wo st fl fn li rc kd it pa hi pt sv iz te fr va sa re vk vi sk si rk ri : Nat) (wd : Int32) (sz : Nat)  : Met l y_TM_code (.code y_TM_code prog_1_method_2_code 3 (some .boolean) :: AW) ({ frames := 1, cells := 0, slots := 0, locals := 23 }) (va_Pc [.ref h, .int wd, .int 1] (pre_ D [(h, .inr (7, [.ref sc, .ref wo, .ref hi, .ref te])), (sc, .inr (2, [.ref by_, .int 0])), (by_, .inl (cI, 300, .inl (fun _ => 0)))] [(cI, .int), (cZ, .boolean), (cJ, .long)] sz)) (va_Qi (fun (r : Int32) (u : Unit) => r = 1) (fun _ t => post_ D (va_A [(h, .inr (7, [.ref sc, .ref wo, .ref hi, .ref te])), (sc, .inr (2, [.ref by_, .int 0])), (by_, .inl (cI, 300, .inl (fun _ => 0)))] sz) [] t) (va_A [(h, .inr (7, [.ref sc, .ref wo, .ref hi, .ref te])), (sc, .inr (2, [.ref by_, .int 0])), (by_, .inl (cI, 300, .inl (fun _ => 0)))] sz)) 0 0 (va_A [(h, .inr (7, [.ref sc, .ref wo, .ref hi, .ref te])), (sc, .inr (2, [.ref by_, .int 0])), (by_, .inl (cI, 300, .inl (fun _ => 0)))] sz) := by
  refine Met.ofW (cc := prog_1_method_2_code) (maxL := 3) (ret := (some .boolean)) (by decide) rfl ?_
  intro p e s m args below meth c s₁ B hml hv
  obtain ⟨rfl, rfl, hP, hK, hD0, hT⟩ := hv
  have hx := B.exec
  have hb := B.bytes
  have hr := B.returns
  have hts0 := atoms_spec (ws := .code y_TM_code prog_1_method_2_code 3 (some .boolean) :: AW) B.pre
  have hts : ∀ w ∈ AW, w.before [.ref h, .int wd, .int 1].toArray s = true := fun w h => hts0 w (List.mem_cons_of_mem _ h)
  have hown : s.vm.findClass "TaleMachine" = some m.cls := findClass_of_methodNamed B.named
  have hlocks := B.notSynchronized
  have hD := hD0.self (sz := s.heap.size)
  generalize hAe : va_A [(h, .inr (7, [.ref sc, .ref wo, .ref hi, .ref te])), (sc, .inr (2, [.ref by_, .int 0])), (by_, .inl (cI, 300, .inl (fun _ => 0)))] s.heap.size = A at hD ⊢
  have hA : ∀ q : Nat, s.heap.size ≤ q → A q := fun q h => by rw [← hAe]; exact Or.inr h
  have hS : va_S A s.heap s.heap [] := va_S.rf
  have hl := lv_entry ([.ref h, .int wd, .int 1]) (n := 3) (Nat.le_of_ble_eq_true rfl)
  rw [lg_entry_eq]
  generalize (lg_sl ([.ref h, .int wd, .int 1]) ++ List.replicate (3 - (lg_sl ([.ref h, .int wd, .int 1])).length) Slot.unset).toArray = ls at hl ⊢
  have hl : lv_has ls 3 [(0, .ref h), (1, .int wd), (2, .int 1)] := hl
  refine lv_aload_n hx hb d_TM_code_0 rfl (lv_at hl 0 rfl) ?_
  refine va_get (D := D) (ci := 7) (v := .ref sc) (C := "TaleMachine") (T := F_TM) (N := 4) hx hb hts in_TM hown hK hP 0 rfl rfl 0 (by decide) (hts _ k_103) (fun _ h9 => h9) rfl d_TM_code_1 ?_
  refine lv_iload_n hx hb d_TM_code_4 rfl (lv_at hl 1 rfl) ?_
  refine lv_iload_n hx hb d_TM_code_5 rfl (lv_at hl 2 rfl) ?_
  refine mv_i (va_runV (C := "TaleMachine$Script") (As := [.int wd, .int 1]) (rest := []) ⟨hx, hb, hml, hown, hts⟩ (c_Script_append_1 l D cI cZ cJ sc by_ wd _ ) (cwV 2 hts (gInV k_126 k_127 k_128 k_100 k_125) rfl rfl rfl (by decide +kernel) ⟨Nat.le_of_ble_eq_true rfl, Nat.le_of_ble_eq_true rfl⟩) (pre_V (va_recv hK hP (q := ("TaleMachine$Script", F_Script, 2)) rfl (q0 := 1) rfl) (hP.sub [1, 2] rfl) (hK.sub [0, 1, 2] rfl) (hD.sub [1, 2] (by decide) rfl) hT) rfl rfl hl.1 rfl (lv_room (Nat.le_of_ble_eq_true rfl)) d_TM_code_6 ⟨Nat.le_of_ble_eq_true rfl, Nat.le_of_ble_eq_true rfl⟩) hP hD hS hA [1, 2] [0] rfl rfl (by decide) (by decide) (wr := [(h, .inr (7, [.ref sc, .ref wo, .ref hi, .ref te]))]) (wn := fun _ => []) (fun _ _ h9 => h9) (fun r1 _ H locs hp2 hP hD hS => ?_)
  have hP : va_P D cL [(h, .inr (7, [.ref sc, .ref wo, .ref hi, .ref te]))] H := hP
  have hD : va_D A [(h, .inr (7, [.ref sc, .ref wo, .ref hi, .ref te]))] := hD
  obtain rfl : r1 = 1 := hp2
  exact end_z hx hb hr hlocks hS (u := ()) (r := 1) (at_end (hP.sub (ws' := []) [] rfl) (hD.sub (ws' := []) [] (by decide) rfl)) (rfl) (by decide) (Nat.le_of_ble_eq_true rfl) (Nat.le_of_ble_eq_true rfl) d_TM_code_9

set_option maxHeartbeats 4000000 in
set_option maxRecDepth 100000 in
theorem c_Script_append_2 (l : Launch) (D : va_G) (cI cZ cJ : ClassId) (h by_ : Nat) (wd : Int32) (sz : Nat)  : Met l y_Script_append (.code y_Script_append prog_4_method_2_code 4 (some .boolean) :: AW) ({ frames := 0, cells := 0, slots := 0, locals := 0 }) (va_Pc [.ref h, .int wd, .int 2] (pre_ D [(h, .inr (2, [.ref by_, .int 0])), (by_, .inl (cI, 300, .inl (fun _ => 0)))] [(cI, .int), (cZ, .boolean), (cJ, .long)] sz)) (va_Qi (fun (r : Int32) (u : Unit) => r = 1) (fun _ t => post_ D (va_A [(h, .inr (2, [.ref by_, .int 0])), (by_, .inl (cI, 300, .inl (fun _ => 0)))] sz) [] t) (va_A [(h, .inr (2, [.ref by_, .int 0])), (by_, .inl (cI, 300, .inl (fun _ => 0)))] sz)) 0 0 (va_A [(h, .inr (2, [.ref by_, .int 0])), (by_, .inl (cI, 300, .inl (fun _ => 0)))] sz) := by
  refine Met.ofW (cc := prog_4_method_2_code) (maxL := 4) (ret := (some .boolean)) (by decide) rfl ?_
  intro p e s m args below meth c s₁ B hml hv
  obtain ⟨rfl, rfl, hP, hK, hD0, hT⟩ := hv
  have hx := B.exec
  have hb := B.bytes
  have hr := B.returns
  have hts0 := atoms_spec (ws := .code y_Script_append prog_4_method_2_code 4 (some .boolean) :: AW) B.pre
  have hts : ∀ w ∈ AW, w.before [.ref h, .int wd, .int 2].toArray s = true := fun w h => hts0 w (List.mem_cons_of_mem _ h)
  have hown : s.vm.findClass "TaleMachine$Script" = some m.cls := findClass_of_methodNamed B.named
  have hlocks := B.notSynchronized
  have hD := hD0.self (sz := s.heap.size)
  generalize hAe : va_A [(h, .inr (2, [.ref by_, .int 0])), (by_, .inl (cI, 300, .inl (fun _ => 0)))] s.heap.size = A at hD ⊢
  have hA : ∀ q : Nat, s.heap.size ≤ q → A q := fun q h => by rw [← hAe]; exact Or.inr h
  have hS : va_S A s.heap s.heap [] := va_S.rf
  have hl := lv_entry ([.ref h, .int wd, .int 2]) (n := 4) (Nat.le_of_ble_eq_true rfl)
  rw [lg_entry_eq]
  generalize (lg_sl ([.ref h, .int wd, .int 2]) ++ List.replicate (4 - (lg_sl ([.ref h, .int wd, .int 2])).length) Slot.unset).toArray = ls at hl ⊢
  have hl : lv_has ls 4 [(0, .ref h), (1, .int wd), (2, .int 2)] := hl
  refine lv_iload_n hx hb d_Script_append_0 rfl (lv_at hl 2 rfl) ?_
  refine lv_iconst (v := 1) hx hb d_Script_append_1 (by decide) ?_
  refine lv_icmp_lt hx hb d_Script_append_2 (tgt := 22) (by decide) (fun hz => absurd hz (by decide)) (fun _ => ?_)
  refine lv_iload_n hx hb d_Script_append_5 rfl (lv_at hl 2 rfl) ?_
  refine lv_iconst (v := 4) hx hb d_Script_append_6 (by decide) ?_
  refine lv_icmp_gt hx hb d_Script_append_7 (tgt := 22) (by decide) (fun hz => absurd hz (by decide)) (fun _ => ?_)
  refine lv_aload_n hx hb d_Script_append_10 rfl (lv_at hl 0 rfl) ?_
  refine va_get (D := D) (ci := 2) (v := .int 0) (C := "TaleMachine$Script") (T := F_Script) (N := 2) hx hb hts in_Script hown hK hP 0 rfl rfl 1 (by decide) (hts _ k_124) (fun _ h9 => h9) rfl d_Script_append_11 ?_
  refine lv_iload_n hx hb d_Script_append_14 rfl (lv_at hl 2 rfl) ?_
  refine lv_iadd hx hb d_Script_append_15 ?_
  refine lv_topi (fun z1 hz1 => ?_)
  obtain rfl : z1 = 2 := hz1.trans (by decide)
  refine lv_sipush (v := 300) hx hb d_Script_append_16 (by decide) ?_
  refine lv_icmp_le hx hb d_Script_append_19 (tgt := 24) (by decide) (fun _ => ?_) (fun hz => absurd (by decide) hz)
  refine lv_iload_n hx hb d_Script_append_24 rfl (lv_at hl 2 rfl) ?_
  refine lv_iconst (v := 1) hx hb d_Script_append_25 (by decide) ?_
  refine lv_isub hx hb d_Script_append_26 ?_
  refine lv_topi (fun z2 hz2 => ?_)
  obtain rfl : z2 = 1 := hz2.trans (by decide)
  refine lv_istore_n (lv' := [(3, .int 1), (0, .ref h), (1, .int wd), (2, .int 2)]) hx hb d_Script_append_27 rfl hl (by decide) rfl (fun ls hl => ?_)
  refine lv_iload_n hx hb d_Script_append_28 rfl (lv_at hl 0 rfl) ?_
  refine lv_if_lt hx hb d_Script_append_29 (tgt := 67) (by decide) (fun hz => absurd hz (by decide)) (fun _ => ?_)
  refine lv_aload_n hx hb d_Script_append_32 rfl (lv_at hl 1 rfl) ?_
  refine va_get (D := D) (ci := 2) (v := .ref by_) (C := "TaleMachine$Script") (T := F_Script) (N := 2) hx hb hts in_Script hown hK hP 0 rfl rfl 0 (by decide) (hts _ k_45) (fun _ h9 => h9) rfl d_Script_append_33 ?_
  refine lv_aload_n hx hb d_Script_append_36 rfl (lv_at hl 1 rfl) ?_
  refine va_get (D := D) (ci := 2) (v := .int 0) (C := "TaleMachine$Script") (T := F_Script) (N := 2) hx hb hts in_Script hown hK hP 0 rfl rfl 1 (by decide) (hts _ k_124) (fun _ h9 => h9) rfl d_Script_append_37 ?_
  refine lv_iload_n hx hb d_Script_append_40 rfl (lv_at hl 2 rfl) ?_
  refine lv_bipush (v := 8) hx hb d_Script_append_41 (by decide) ?_
  refine lv_iload_n hx hb d_Script_append_43 rfl (lv_at hl 0 rfl) ?_
  refine lv_imul hx hb d_Script_append_44 ?_
  refine lv_topi (fun z3 hz3 => ?_)
  obtain rfl : z3 = 8 := hz3.trans (by decide)
  refine lv_iushr hx hb d_Script_append_45 rfl ?_
  refine lv_topi (fun z4 hz4 => ?_)
  refine lv_sipush (v := 255) hx hb d_Script_append_46 (by decide) ?_
  refine lv_iand hx hb d_Script_append_49 ?_
  refine lv_topi (fun z5 hz5 => ?_)
  refine va_iast hx hb hK hP hD hS 1 0 rfl rfl (i := 0) (x := z5) (in_c (by decide)) d_Script_append_50 (fun H locs hP hD hS => ?_)
  have hP : va_P D cL [(h, .inr (2, [.ref by_, .int 0])), (by_, .inl (cI, 300, .inl (upd (fun _ => 0) (0 : Int32).toNatClampNeg z5)))] H := hP
  have hD : va_D A [(h, .inr (2, [.ref by_, .int 0])), (by_, .inl (cI, 300, .inl (upd (fun _ => 0) (0 : Int32).toNatClampNeg z5)))] := hD
  generalize hff6 : upd (fun _ => 0) (0 : Int32).toNatClampNeg z5 = f6 at hP hD
  refine lv_aload_n hx hb d_Script_append_51 rfl (lv_at hl 1 rfl) ?_
  refine lv_dup hx hb d_Script_append_52 rfl ?_
  refine va_get (D := D) (ci := 2) (v := .int 0) (C := "TaleMachine$Script") (T := F_Script) (N := 2) hx hb hts in_Script hown hK hP 0 rfl rfl 1 (by decide) (hts _ k_124) (fun _ h9 => h9) rfl d_Script_append_53 ?_
  refine lv_iconst (v := 1) hx hb d_Script_append_56 (by decide) ?_
  refine lv_iadd hx hb d_Script_append_57 ?_
  refine lv_topi (fun z7 hz7 => ?_)
  obtain rfl : z7 = 1 := hz7.trans (by decide)
  refine va_put (D := D) (ci := 2) (v := .int 1) (ty := .int) (C := "TaleMachine$Script") (T := F_Script) (N := 2) hx hb hts in_Script t_Script t_Script_ok n_Script hown hK hP hD hS 0 rfl rfl 1 (by decide) (hts _ k_124) (fun _ h9 => h9) rfl (by decide +kernel) rfl rfl (Nat.le_of_ble_eq_true rfl) d_Script_append_58 (fun H locs hP hD hS => ?_)
  have hP : va_P D cL [(h, .inr (2, [.ref by_, .int 1])), (by_, .inl (cI, 300, .inl f6))] H := hP
  have hD : va_D A [(h, .inr (2, [.ref by_, .int 1])), (by_, .inl (cI, 300, .inl f6))] := hD
  refine lv_iinc (v := 0) (lv' := [(3, .int 0), (0, .ref h), (1, .int wd), (2, .int 2)]) hx hb d_Script_append_61 hl (k := 0) rfl (by decide) (by decide) rfl (fun ls hl => ?_)
  refine lv_goto hx hb d_Script_append_64 (tgt := 28) (by decide) ?_
  refine lv_iload_n hx hb d_Script_append_28 rfl (lv_at hl 0 rfl) ?_
  refine lv_if_lt hx hb d_Script_append_29 (tgt := 67) (by decide) (fun hz => absurd hz (by decide)) (fun _ => ?_)
  refine lv_aload_n hx hb d_Script_append_32 rfl (lv_at hl 1 rfl) ?_
  refine va_get (D := D) (ci := 2) (v := .ref by_) (C := "TaleMachine$Script") (T := F_Script) (N := 2) hx hb hts in_Script hown hK hP 0 rfl rfl 0 (by decide) (hts _ k_45) (fun _ h9 => h9) rfl d_Script_append_33 ?_
  refine lv_aload_n hx hb d_Script_append_36 rfl (lv_at hl 1 rfl) ?_
  refine va_get (D := D) (ci := 2) (v := .int 1) (C := "TaleMachine$Script") (T := F_Script) (N := 2) hx hb hts in_Script hown hK hP 0 rfl rfl 1 (by decide) (hts _ k_124) (fun _ h9 => h9) rfl d_Script_append_37 ?_
  refine lv_iload_n hx hb d_Script_append_40 rfl (lv_at hl 2 rfl) ?_
  refine lv_bipush (v := 8) hx hb d_Script_append_41 (by decide) ?_
  refine lv_iload_n hx hb d_Script_append_43 rfl (lv_at hl 0 rfl) ?_
  refine lv_imul hx hb d_Script_append_44 ?_
  refine lv_topi (fun z8 hz8 => ?_)
  obtain rfl : z8 = 0 := hz8.trans (by decide)
  refine lv_iushr hx hb d_Script_append_45 rfl ?_
  refine lv_topi (fun z9 hz9 => ?_)
  refine lv_sipush (v := 255) hx hb d_Script_append_46 (by decide) ?_
  refine lv_iand hx hb d_Script_append_49 ?_
  refine lv_topi (fun z10 hz10 => ?_)
  refine va_iast hx hb hK hP hD hS 1 0 rfl rfl (i := 1) (x := z10) (in_c (by decide)) d_Script_append_50 (fun H locs hP hD hS => ?_)
  have hP : va_P D cL [(h, .inr (2, [.ref by_, .int 1])), (by_, .inl (cI, 300, .inl (upd f6 (1 : Int32).toNatClampNeg z10)))] H := hP
  have hD : va_D A [(h, .inr (2, [.ref by_, .int 1])), (by_, .inl (cI, 300, .inl (upd f6 (1 : Int32).toNatClampNeg z10)))] := hD
  generalize hff11 : upd f6 (1 : Int32).toNatClampNeg z10 = f11 at hP hD
  refine lv_aload_n hx hb d_Script_append_51 rfl (lv_at hl 1 rfl) ?_
  refine lv_dup hx hb d_Script_append_52 rfl ?_
  refine va_get (D := D) (ci := 2) (v := .int 1) (C := "TaleMachine$Script") (T := F_Script) (N := 2) hx hb hts in_Script hown hK hP 0 rfl rfl 1 (by decide) (hts _ k_124) (fun _ h9 => h9) rfl d_Script_append_53 ?_
  refine lv_iconst (v := 1) hx hb d_Script_append_56 (by decide) ?_
  refine lv_iadd hx hb d_Script_append_57 ?_
  refine lv_topi (fun z12 hz12 => ?_)
  obtain rfl : z12 = 2 := hz12.trans (by decide)
  refine va_put (D := D) (ci := 2) (v := .int 2) (ty := .int) (C := "TaleMachine$Script") (T := F_Script) (N := 2) hx hb hts in_Script t_Script t_Script_ok n_Script hown hK hP hD hS 0 rfl rfl 1 (by decide) (hts _ k_124) (fun _ h9 => h9) rfl (by decide +kernel) rfl rfl (Nat.le_of_ble_eq_true rfl) d_Script_append_58 (fun H locs hP hD hS => ?_)
  have hP : va_P D cL [(h, .inr (2, [.ref by_, .int 2])), (by_, .inl (cI, 300, .inl f11))] H := hP
  have hD : va_D A [(h, .inr (2, [.ref by_, .int 2])), (by_, .inl (cI, 300, .inl f11))] := hD
  refine lv_iinc (v := (-1)) (lv' := [(3, .int (-1)), (0, .ref h), (1, .int wd), (2, .int 2)]) hx hb d_Script_append_61 hl (k := 0) rfl (by decide) (by decide) rfl (fun ls hl => ?_)
  refine lv_goto hx hb d_Script_append_64 (tgt := 28) (by decide) ?_
  refine lv_iload_n hx hb d_Script_append_28 rfl (lv_at hl 0 rfl) ?_
  refine lv_if_lt hx hb d_Script_append_29 (tgt := 67) (by decide) (fun _ => ?_) (fun hz => absurd (by decide) hz)
  refine lv_iconst (v := 1) hx hb d_Script_append_67 (by decide) ?_
  exact end_z hx hb hr hlocks hS (u := ()) (r := 1) (at_end (hP.sub (ws' := []) [] rfl) (hD.sub (ws' := []) [] (by decide) rfl)) (rfl) (by decide) (Nat.le_of_ble_eq_true rfl) (Nat.le_of_ble_eq_true rfl) d_Script_append_68

set_option maxHeartbeats 4000000 in
set_option maxRecDepth 100000 in
theorem c_TM_code_2 (l : Launch) (D : va_G) (cI cZ cJ : ClassId) (h sc by_ wo st fl fn li rc kd it pa hi pt sv iz te fr va sa re vk vi sk si rk ri : Nat) (wd : Int32) (sz : Nat)  : Met l y_TM_code (.code y_TM_code prog_1_method_2_code 3 (some .boolean) :: AW) ({ frames := 1, cells := 0, slots := 0, locals := 23 }) (va_Pc [.ref h, .int wd, .int 2] (pre_ D [(h, .inr (7, [.ref sc, .ref wo, .ref hi, .ref te])), (sc, .inr (2, [.ref by_, .int 0])), (by_, .inl (cI, 300, .inl (fun _ => 0)))] [(cI, .int), (cZ, .boolean), (cJ, .long)] sz)) (va_Qi (fun (r : Int32) (u : Unit) => r = 1) (fun _ t => post_ D (va_A [(h, .inr (7, [.ref sc, .ref wo, .ref hi, .ref te])), (sc, .inr (2, [.ref by_, .int 0])), (by_, .inl (cI, 300, .inl (fun _ => 0)))] sz) [] t) (va_A [(h, .inr (7, [.ref sc, .ref wo, .ref hi, .ref te])), (sc, .inr (2, [.ref by_, .int 0])), (by_, .inl (cI, 300, .inl (fun _ => 0)))] sz)) 0 0 (va_A [(h, .inr (7, [.ref sc, .ref wo, .ref hi, .ref te])), (sc, .inr (2, [.ref by_, .int 0])), (by_, .inl (cI, 300, .inl (fun _ => 0)))] sz) := by
  refine Met.ofW (cc := prog_1_method_2_code) (maxL := 3) (ret := (some .boolean)) (by decide) rfl ?_
  intro p e s m args below meth c s₁ B hml hv
  obtain ⟨rfl, rfl, hP, hK, hD0, hT⟩ := hv
  have hx := B.exec
  have hb := B.bytes
  have hr := B.returns
  have hts0 := atoms_spec (ws := .code y_TM_code prog_1_method_2_code 3 (some .boolean) :: AW) B.pre
  have hts : ∀ w ∈ AW, w.before [.ref h, .int wd, .int 2].toArray s = true := fun w h => hts0 w (List.mem_cons_of_mem _ h)
  have hown : s.vm.findClass "TaleMachine" = some m.cls := findClass_of_methodNamed B.named
  have hlocks := B.notSynchronized
  have hD := hD0.self (sz := s.heap.size)
  generalize hAe : va_A [(h, .inr (7, [.ref sc, .ref wo, .ref hi, .ref te])), (sc, .inr (2, [.ref by_, .int 0])), (by_, .inl (cI, 300, .inl (fun _ => 0)))] s.heap.size = A at hD ⊢
  have hA : ∀ q : Nat, s.heap.size ≤ q → A q := fun q h => by rw [← hAe]; exact Or.inr h
  have hS : va_S A s.heap s.heap [] := va_S.rf
  have hl := lv_entry ([.ref h, .int wd, .int 2]) (n := 3) (Nat.le_of_ble_eq_true rfl)
  rw [lg_entry_eq]
  generalize (lg_sl ([.ref h, .int wd, .int 2]) ++ List.replicate (3 - (lg_sl ([.ref h, .int wd, .int 2])).length) Slot.unset).toArray = ls at hl ⊢
  have hl : lv_has ls 3 [(0, .ref h), (1, .int wd), (2, .int 2)] := hl
  refine lv_aload_n hx hb d_TM_code_0 rfl (lv_at hl 0 rfl) ?_
  refine va_get (D := D) (ci := 7) (v := .ref sc) (C := "TaleMachine") (T := F_TM) (N := 4) hx hb hts in_TM hown hK hP 0 rfl rfl 0 (by decide) (hts _ k_103) (fun _ h9 => h9) rfl d_TM_code_1 ?_
  refine lv_iload_n hx hb d_TM_code_4 rfl (lv_at hl 1 rfl) ?_
  refine lv_iload_n hx hb d_TM_code_5 rfl (lv_at hl 2 rfl) ?_
  refine mv_i (va_runV (C := "TaleMachine$Script") (As := [.int wd, .int 2]) (rest := []) ⟨hx, hb, hml, hown, hts⟩ (c_Script_append_2 l D cI cZ cJ sc by_ wd _ ) (cwV 2 hts (gInV k_126 k_127 k_128 k_100 k_125) rfl rfl rfl (by decide +kernel) ⟨Nat.le_of_ble_eq_true rfl, Nat.le_of_ble_eq_true rfl⟩) (pre_V (va_recv hK hP (q := ("TaleMachine$Script", F_Script, 2)) rfl (q0 := 1) rfl) (hP.sub [1, 2] rfl) (hK.sub [0, 1, 2] rfl) (hD.sub [1, 2] (by decide) rfl) hT) rfl rfl hl.1 rfl (lv_room (Nat.le_of_ble_eq_true rfl)) d_TM_code_6 ⟨Nat.le_of_ble_eq_true rfl, Nat.le_of_ble_eq_true rfl⟩) hP hD hS hA [1, 2] [0] rfl rfl (by decide) (by decide) (wr := [(h, .inr (7, [.ref sc, .ref wo, .ref hi, .ref te]))]) (wn := fun _ => []) (fun _ _ h9 => h9) (fun r1 _ H locs hp2 hP hD hS => ?_)
  have hP : va_P D cL [(h, .inr (7, [.ref sc, .ref wo, .ref hi, .ref te]))] H := hP
  have hD : va_D A [(h, .inr (7, [.ref sc, .ref wo, .ref hi, .ref te]))] := hD
  obtain rfl : r1 = 1 := hp2
  exact end_z hx hb hr hlocks hS (u := ()) (r := 1) (at_end (hP.sub (ws' := []) [] rfl) (hD.sub (ws' := []) [] (by decide) rfl)) (rfl) (by decide) (Nat.le_of_ble_eq_true rfl) (Nat.le_of_ble_eq_true rfl) d_TM_code_9

set_option maxHeartbeats 4000000 in
set_option maxRecDepth 100000 in
theorem c_Script_append_3 (l : Launch) (D : va_G) (cI cZ cJ : ClassId) (h by_ : Nat) (wd : Int32) (sz : Nat)  : Met l y_Script_append (.code y_Script_append prog_4_method_2_code 4 (some .boolean) :: AW) ({ frames := 0, cells := 0, slots := 0, locals := 0 }) (va_Pc [.ref h, .int wd, .int 3] (pre_ D [(h, .inr (2, [.ref by_, .int 0])), (by_, .inl (cI, 300, .inl (fun _ => 0)))] [(cI, .int), (cZ, .boolean), (cJ, .long)] sz)) (va_Qi (fun (r : Int32) (u : Unit) => r = 1) (fun _ t => post_ D (va_A [(h, .inr (2, [.ref by_, .int 0])), (by_, .inl (cI, 300, .inl (fun _ => 0)))] sz) [] t) (va_A [(h, .inr (2, [.ref by_, .int 0])), (by_, .inl (cI, 300, .inl (fun _ => 0)))] sz)) 0 0 (va_A [(h, .inr (2, [.ref by_, .int 0])), (by_, .inl (cI, 300, .inl (fun _ => 0)))] sz) := by
  refine Met.ofW (cc := prog_4_method_2_code) (maxL := 4) (ret := (some .boolean)) (by decide) rfl ?_
  intro p e s m args below meth c s₁ B hml hv
  obtain ⟨rfl, rfl, hP, hK, hD0, hT⟩ := hv
  have hx := B.exec
  have hb := B.bytes
  have hr := B.returns
  have hts0 := atoms_spec (ws := .code y_Script_append prog_4_method_2_code 4 (some .boolean) :: AW) B.pre
  have hts : ∀ w ∈ AW, w.before [.ref h, .int wd, .int 3].toArray s = true := fun w h => hts0 w (List.mem_cons_of_mem _ h)
  have hown : s.vm.findClass "TaleMachine$Script" = some m.cls := findClass_of_methodNamed B.named
  have hlocks := B.notSynchronized
  have hD := hD0.self (sz := s.heap.size)
  generalize hAe : va_A [(h, .inr (2, [.ref by_, .int 0])), (by_, .inl (cI, 300, .inl (fun _ => 0)))] s.heap.size = A at hD ⊢
  have hA : ∀ q : Nat, s.heap.size ≤ q → A q := fun q h => by rw [← hAe]; exact Or.inr h
  have hS : va_S A s.heap s.heap [] := va_S.rf
  have hl := lv_entry ([.ref h, .int wd, .int 3]) (n := 4) (Nat.le_of_ble_eq_true rfl)
  rw [lg_entry_eq]
  generalize (lg_sl ([.ref h, .int wd, .int 3]) ++ List.replicate (4 - (lg_sl ([.ref h, .int wd, .int 3])).length) Slot.unset).toArray = ls at hl ⊢
  have hl : lv_has ls 4 [(0, .ref h), (1, .int wd), (2, .int 3)] := hl
  refine lv_iload_n hx hb d_Script_append_0 rfl (lv_at hl 2 rfl) ?_
  refine lv_iconst (v := 1) hx hb d_Script_append_1 (by decide) ?_
  refine lv_icmp_lt hx hb d_Script_append_2 (tgt := 22) (by decide) (fun hz => absurd hz (by decide)) (fun _ => ?_)
  refine lv_iload_n hx hb d_Script_append_5 rfl (lv_at hl 2 rfl) ?_
  refine lv_iconst (v := 4) hx hb d_Script_append_6 (by decide) ?_
  refine lv_icmp_gt hx hb d_Script_append_7 (tgt := 22) (by decide) (fun hz => absurd hz (by decide)) (fun _ => ?_)
  refine lv_aload_n hx hb d_Script_append_10 rfl (lv_at hl 0 rfl) ?_
  refine va_get (D := D) (ci := 2) (v := .int 0) (C := "TaleMachine$Script") (T := F_Script) (N := 2) hx hb hts in_Script hown hK hP 0 rfl rfl 1 (by decide) (hts _ k_124) (fun _ h9 => h9) rfl d_Script_append_11 ?_
  refine lv_iload_n hx hb d_Script_append_14 rfl (lv_at hl 2 rfl) ?_
  refine lv_iadd hx hb d_Script_append_15 ?_
  refine lv_topi (fun z1 hz1 => ?_)
  obtain rfl : z1 = 3 := hz1.trans (by decide)
  refine lv_sipush (v := 300) hx hb d_Script_append_16 (by decide) ?_
  refine lv_icmp_le hx hb d_Script_append_19 (tgt := 24) (by decide) (fun _ => ?_) (fun hz => absurd (by decide) hz)
  refine lv_iload_n hx hb d_Script_append_24 rfl (lv_at hl 2 rfl) ?_
  refine lv_iconst (v := 1) hx hb d_Script_append_25 (by decide) ?_
  refine lv_isub hx hb d_Script_append_26 ?_
  refine lv_topi (fun z2 hz2 => ?_)
  obtain rfl : z2 = 2 := hz2.trans (by decide)
  refine lv_istore_n (lv' := [(3, .int 2), (0, .ref h), (1, .int wd), (2, .int 3)]) hx hb d_Script_append_27 rfl hl (by decide) rfl (fun ls hl => ?_)
  refine lv_iload_n hx hb d_Script_append_28 rfl (lv_at hl 0 rfl) ?_
  refine lv_if_lt hx hb d_Script_append_29 (tgt := 67) (by decide) (fun hz => absurd hz (by decide)) (fun _ => ?_)
  refine lv_aload_n hx hb d_Script_append_32 rfl (lv_at hl 1 rfl) ?_
  refine va_get (D := D) (ci := 2) (v := .ref by_) (C := "TaleMachine$Script") (T := F_Script) (N := 2) hx hb hts in_Script hown hK hP 0 rfl rfl 0 (by decide) (hts _ k_45) (fun _ h9 => h9) rfl d_Script_append_33 ?_
  refine lv_aload_n hx hb d_Script_append_36 rfl (lv_at hl 1 rfl) ?_
  refine va_get (D := D) (ci := 2) (v := .int 0) (C := "TaleMachine$Script") (T := F_Script) (N := 2) hx hb hts in_Script hown hK hP 0 rfl rfl 1 (by decide) (hts _ k_124) (fun _ h9 => h9) rfl d_Script_append_37 ?_
  refine lv_iload_n hx hb d_Script_append_40 rfl (lv_at hl 2 rfl) ?_
  refine lv_bipush (v := 8) hx hb d_Script_append_41 (by decide) ?_
  refine lv_iload_n hx hb d_Script_append_43 rfl (lv_at hl 0 rfl) ?_
  refine lv_imul hx hb d_Script_append_44 ?_
  refine lv_topi (fun z3 hz3 => ?_)
  obtain rfl : z3 = 16 := hz3.trans (by decide)
  refine lv_iushr hx hb d_Script_append_45 rfl ?_
  refine lv_topi (fun z4 hz4 => ?_)
  refine lv_sipush (v := 255) hx hb d_Script_append_46 (by decide) ?_
  refine lv_iand hx hb d_Script_append_49 ?_
  refine lv_topi (fun z5 hz5 => ?_)
  refine va_iast hx hb hK hP hD hS 1 0 rfl rfl (i := 0) (x := z5) (in_c (by decide)) d_Script_append_50 (fun H locs hP hD hS => ?_)
  have hP : va_P D cL [(h, .inr (2, [.ref by_, .int 0])), (by_, .inl (cI, 300, .inl (upd (fun _ => 0) (0 : Int32).toNatClampNeg z5)))] H := hP
  have hD : va_D A [(h, .inr (2, [.ref by_, .int 0])), (by_, .inl (cI, 300, .inl (upd (fun _ => 0) (0 : Int32).toNatClampNeg z5)))] := hD
  generalize hff6 : upd (fun _ => 0) (0 : Int32).toNatClampNeg z5 = f6 at hP hD
  refine lv_aload_n hx hb d_Script_append_51 rfl (lv_at hl 1 rfl) ?_
  refine lv_dup hx hb d_Script_append_52 rfl ?_
  refine va_get (D := D) (ci := 2) (v := .int 0) (C := "TaleMachine$Script") (T := F_Script) (N := 2) hx hb hts in_Script hown hK hP 0 rfl rfl 1 (by decide) (hts _ k_124) (fun _ h9 => h9) rfl d_Script_append_53 ?_
  refine lv_iconst (v := 1) hx hb d_Script_append_56 (by decide) ?_
  refine lv_iadd hx hb d_Script_append_57 ?_
  refine lv_topi (fun z7 hz7 => ?_)
  obtain rfl : z7 = 1 := hz7.trans (by decide)
  refine va_put (D := D) (ci := 2) (v := .int 1) (ty := .int) (C := "TaleMachine$Script") (T := F_Script) (N := 2) hx hb hts in_Script t_Script t_Script_ok n_Script hown hK hP hD hS 0 rfl rfl 1 (by decide) (hts _ k_124) (fun _ h9 => h9) rfl (by decide +kernel) rfl rfl (Nat.le_of_ble_eq_true rfl) d_Script_append_58 (fun H locs hP hD hS => ?_)
  have hP : va_P D cL [(h, .inr (2, [.ref by_, .int 1])), (by_, .inl (cI, 300, .inl f6))] H := hP
  have hD : va_D A [(h, .inr (2, [.ref by_, .int 1])), (by_, .inl (cI, 300, .inl f6))] := hD
  refine lv_iinc (v := 1) (lv' := [(3, .int 1), (0, .ref h), (1, .int wd), (2, .int 3)]) hx hb d_Script_append_61 hl (k := 0) rfl (by decide) (by decide) rfl (fun ls hl => ?_)
  refine lv_goto hx hb d_Script_append_64 (tgt := 28) (by decide) ?_
  refine lv_iload_n hx hb d_Script_append_28 rfl (lv_at hl 0 rfl) ?_
  refine lv_if_lt hx hb d_Script_append_29 (tgt := 67) (by decide) (fun hz => absurd hz (by decide)) (fun _ => ?_)
  refine lv_aload_n hx hb d_Script_append_32 rfl (lv_at hl 1 rfl) ?_
  refine va_get (D := D) (ci := 2) (v := .ref by_) (C := "TaleMachine$Script") (T := F_Script) (N := 2) hx hb hts in_Script hown hK hP 0 rfl rfl 0 (by decide) (hts _ k_45) (fun _ h9 => h9) rfl d_Script_append_33 ?_
  refine lv_aload_n hx hb d_Script_append_36 rfl (lv_at hl 1 rfl) ?_
  refine va_get (D := D) (ci := 2) (v := .int 1) (C := "TaleMachine$Script") (T := F_Script) (N := 2) hx hb hts in_Script hown hK hP 0 rfl rfl 1 (by decide) (hts _ k_124) (fun _ h9 => h9) rfl d_Script_append_37 ?_
  refine lv_iload_n hx hb d_Script_append_40 rfl (lv_at hl 2 rfl) ?_
  refine lv_bipush (v := 8) hx hb d_Script_append_41 (by decide) ?_
  refine lv_iload_n hx hb d_Script_append_43 rfl (lv_at hl 0 rfl) ?_
  refine lv_imul hx hb d_Script_append_44 ?_
  refine lv_topi (fun z8 hz8 => ?_)
  obtain rfl : z8 = 8 := hz8.trans (by decide)
  refine lv_iushr hx hb d_Script_append_45 rfl ?_
  refine lv_topi (fun z9 hz9 => ?_)
  refine lv_sipush (v := 255) hx hb d_Script_append_46 (by decide) ?_
  refine lv_iand hx hb d_Script_append_49 ?_
  refine lv_topi (fun z10 hz10 => ?_)
  refine va_iast hx hb hK hP hD hS 1 0 rfl rfl (i := 1) (x := z10) (in_c (by decide)) d_Script_append_50 (fun H locs hP hD hS => ?_)
  have hP : va_P D cL [(h, .inr (2, [.ref by_, .int 1])), (by_, .inl (cI, 300, .inl (upd f6 (1 : Int32).toNatClampNeg z10)))] H := hP
  have hD : va_D A [(h, .inr (2, [.ref by_, .int 1])), (by_, .inl (cI, 300, .inl (upd f6 (1 : Int32).toNatClampNeg z10)))] := hD
  generalize hff11 : upd f6 (1 : Int32).toNatClampNeg z10 = f11 at hP hD
  refine lv_aload_n hx hb d_Script_append_51 rfl (lv_at hl 1 rfl) ?_
  refine lv_dup hx hb d_Script_append_52 rfl ?_
  refine va_get (D := D) (ci := 2) (v := .int 1) (C := "TaleMachine$Script") (T := F_Script) (N := 2) hx hb hts in_Script hown hK hP 0 rfl rfl 1 (by decide) (hts _ k_124) (fun _ h9 => h9) rfl d_Script_append_53 ?_
  refine lv_iconst (v := 1) hx hb d_Script_append_56 (by decide) ?_
  refine lv_iadd hx hb d_Script_append_57 ?_
  refine lv_topi (fun z12 hz12 => ?_)
  obtain rfl : z12 = 2 := hz12.trans (by decide)
  refine va_put (D := D) (ci := 2) (v := .int 2) (ty := .int) (C := "TaleMachine$Script") (T := F_Script) (N := 2) hx hb hts in_Script t_Script t_Script_ok n_Script hown hK hP hD hS 0 rfl rfl 1 (by decide) (hts _ k_124) (fun _ h9 => h9) rfl (by decide +kernel) rfl rfl (Nat.le_of_ble_eq_true rfl) d_Script_append_58 (fun H locs hP hD hS => ?_)
  have hP : va_P D cL [(h, .inr (2, [.ref by_, .int 2])), (by_, .inl (cI, 300, .inl f11))] H := hP
  have hD : va_D A [(h, .inr (2, [.ref by_, .int 2])), (by_, .inl (cI, 300, .inl f11))] := hD
  refine lv_iinc (v := 0) (lv' := [(3, .int 0), (0, .ref h), (1, .int wd), (2, .int 3)]) hx hb d_Script_append_61 hl (k := 0) rfl (by decide) (by decide) rfl (fun ls hl => ?_)
  refine lv_goto hx hb d_Script_append_64 (tgt := 28) (by decide) ?_
  refine lv_iload_n hx hb d_Script_append_28 rfl (lv_at hl 0 rfl) ?_
  refine lv_if_lt hx hb d_Script_append_29 (tgt := 67) (by decide) (fun hz => absurd hz (by decide)) (fun _ => ?_)
  refine lv_aload_n hx hb d_Script_append_32 rfl (lv_at hl 1 rfl) ?_
  refine va_get (D := D) (ci := 2) (v := .ref by_) (C := "TaleMachine$Script") (T := F_Script) (N := 2) hx hb hts in_Script hown hK hP 0 rfl rfl 0 (by decide) (hts _ k_45) (fun _ h9 => h9) rfl d_Script_append_33 ?_
  refine lv_aload_n hx hb d_Script_append_36 rfl (lv_at hl 1 rfl) ?_
  refine va_get (D := D) (ci := 2) (v := .int 2) (C := "TaleMachine$Script") (T := F_Script) (N := 2) hx hb hts in_Script hown hK hP 0 rfl rfl 1 (by decide) (hts _ k_124) (fun _ h9 => h9) rfl d_Script_append_37 ?_
  refine lv_iload_n hx hb d_Script_append_40 rfl (lv_at hl 2 rfl) ?_
  refine lv_bipush (v := 8) hx hb d_Script_append_41 (by decide) ?_
  refine lv_iload_n hx hb d_Script_append_43 rfl (lv_at hl 0 rfl) ?_
  refine lv_imul hx hb d_Script_append_44 ?_
  refine lv_topi (fun z13 hz13 => ?_)
  obtain rfl : z13 = 0 := hz13.trans (by decide)
  refine lv_iushr hx hb d_Script_append_45 rfl ?_
  refine lv_topi (fun z14 hz14 => ?_)
  refine lv_sipush (v := 255) hx hb d_Script_append_46 (by decide) ?_
  refine lv_iand hx hb d_Script_append_49 ?_
  refine lv_topi (fun z15 hz15 => ?_)
  refine va_iast hx hb hK hP hD hS 1 0 rfl rfl (i := 2) (x := z15) (in_c (by decide)) d_Script_append_50 (fun H locs hP hD hS => ?_)
  have hP : va_P D cL [(h, .inr (2, [.ref by_, .int 2])), (by_, .inl (cI, 300, .inl (upd f11 (2 : Int32).toNatClampNeg z15)))] H := hP
  have hD : va_D A [(h, .inr (2, [.ref by_, .int 2])), (by_, .inl (cI, 300, .inl (upd f11 (2 : Int32).toNatClampNeg z15)))] := hD
  generalize hff16 : upd f11 (2 : Int32).toNatClampNeg z15 = f16 at hP hD
  refine lv_aload_n hx hb d_Script_append_51 rfl (lv_at hl 1 rfl) ?_
  refine lv_dup hx hb d_Script_append_52 rfl ?_
  refine va_get (D := D) (ci := 2) (v := .int 2) (C := "TaleMachine$Script") (T := F_Script) (N := 2) hx hb hts in_Script hown hK hP 0 rfl rfl 1 (by decide) (hts _ k_124) (fun _ h9 => h9) rfl d_Script_append_53 ?_
  refine lv_iconst (v := 1) hx hb d_Script_append_56 (by decide) ?_
  refine lv_iadd hx hb d_Script_append_57 ?_
  refine lv_topi (fun z17 hz17 => ?_)
  obtain rfl : z17 = 3 := hz17.trans (by decide)
  refine va_put (D := D) (ci := 2) (v := .int 3) (ty := .int) (C := "TaleMachine$Script") (T := F_Script) (N := 2) hx hb hts in_Script t_Script t_Script_ok n_Script hown hK hP hD hS 0 rfl rfl 1 (by decide) (hts _ k_124) (fun _ h9 => h9) rfl (by decide +kernel) rfl rfl (Nat.le_of_ble_eq_true rfl) d_Script_append_58 (fun H locs hP hD hS => ?_)
  have hP : va_P D cL [(h, .inr (2, [.ref by_, .int 3])), (by_, .inl (cI, 300, .inl f16))] H := hP
  have hD : va_D A [(h, .inr (2, [.ref by_, .int 3])), (by_, .inl (cI, 300, .inl f16))] := hD
  refine lv_iinc (v := (-1)) (lv' := [(3, .int (-1)), (0, .ref h), (1, .int wd), (2, .int 3)]) hx hb d_Script_append_61 hl (k := 0) rfl (by decide) (by decide) rfl (fun ls hl => ?_)
  refine lv_goto hx hb d_Script_append_64 (tgt := 28) (by decide) ?_
  refine lv_iload_n hx hb d_Script_append_28 rfl (lv_at hl 0 rfl) ?_
  refine lv_if_lt hx hb d_Script_append_29 (tgt := 67) (by decide) (fun _ => ?_) (fun hz => absurd (by decide) hz)
  refine lv_iconst (v := 1) hx hb d_Script_append_67 (by decide) ?_
  exact end_z hx hb hr hlocks hS (u := ()) (r := 1) (at_end (hP.sub (ws' := []) [] rfl) (hD.sub (ws' := []) [] (by decide) rfl)) (rfl) (by decide) (Nat.le_of_ble_eq_true rfl) (Nat.le_of_ble_eq_true rfl) d_Script_append_68

set_option maxHeartbeats 4000000 in
set_option maxRecDepth 100000 in
theorem c_TM_code_3 (l : Launch) (D : va_G) (cI cZ cJ : ClassId) (h sc by_ wo st fl fn li rc kd it pa hi pt sv iz te fr va sa re vk vi sk si rk ri : Nat) (wd : Int32) (sz : Nat)  : Met l y_TM_code (.code y_TM_code prog_1_method_2_code 3 (some .boolean) :: AW) ({ frames := 1, cells := 0, slots := 0, locals := 23 }) (va_Pc [.ref h, .int wd, .int 3] (pre_ D [(h, .inr (7, [.ref sc, .ref wo, .ref hi, .ref te])), (sc, .inr (2, [.ref by_, .int 0])), (by_, .inl (cI, 300, .inl (fun _ => 0)))] [(cI, .int), (cZ, .boolean), (cJ, .long)] sz)) (va_Qi (fun (r : Int32) (u : Unit) => r = 1) (fun _ t => post_ D (va_A [(h, .inr (7, [.ref sc, .ref wo, .ref hi, .ref te])), (sc, .inr (2, [.ref by_, .int 0])), (by_, .inl (cI, 300, .inl (fun _ => 0)))] sz) [] t) (va_A [(h, .inr (7, [.ref sc, .ref wo, .ref hi, .ref te])), (sc, .inr (2, [.ref by_, .int 0])), (by_, .inl (cI, 300, .inl (fun _ => 0)))] sz)) 0 0 (va_A [(h, .inr (7, [.ref sc, .ref wo, .ref hi, .ref te])), (sc, .inr (2, [.ref by_, .int 0])), (by_, .inl (cI, 300, .inl (fun _ => 0)))] sz) := by
  refine Met.ofW (cc := prog_1_method_2_code) (maxL := 3) (ret := (some .boolean)) (by decide) rfl ?_
  intro p e s m args below meth c s₁ B hml hv
  obtain ⟨rfl, rfl, hP, hK, hD0, hT⟩ := hv
  have hx := B.exec
  have hb := B.bytes
  have hr := B.returns
  have hts0 := atoms_spec (ws := .code y_TM_code prog_1_method_2_code 3 (some .boolean) :: AW) B.pre
  have hts : ∀ w ∈ AW, w.before [.ref h, .int wd, .int 3].toArray s = true := fun w h => hts0 w (List.mem_cons_of_mem _ h)
  have hown : s.vm.findClass "TaleMachine" = some m.cls := findClass_of_methodNamed B.named
  have hlocks := B.notSynchronized
  have hD := hD0.self (sz := s.heap.size)
  generalize hAe : va_A [(h, .inr (7, [.ref sc, .ref wo, .ref hi, .ref te])), (sc, .inr (2, [.ref by_, .int 0])), (by_, .inl (cI, 300, .inl (fun _ => 0)))] s.heap.size = A at hD ⊢
  have hA : ∀ q : Nat, s.heap.size ≤ q → A q := fun q h => by rw [← hAe]; exact Or.inr h
  have hS : va_S A s.heap s.heap [] := va_S.rf
  have hl := lv_entry ([.ref h, .int wd, .int 3]) (n := 3) (Nat.le_of_ble_eq_true rfl)
  rw [lg_entry_eq]
  generalize (lg_sl ([.ref h, .int wd, .int 3]) ++ List.replicate (3 - (lg_sl ([.ref h, .int wd, .int 3])).length) Slot.unset).toArray = ls at hl ⊢
  have hl : lv_has ls 3 [(0, .ref h), (1, .int wd), (2, .int 3)] := hl
  refine lv_aload_n hx hb d_TM_code_0 rfl (lv_at hl 0 rfl) ?_
  refine va_get (D := D) (ci := 7) (v := .ref sc) (C := "TaleMachine") (T := F_TM) (N := 4) hx hb hts in_TM hown hK hP 0 rfl rfl 0 (by decide) (hts _ k_103) (fun _ h9 => h9) rfl d_TM_code_1 ?_
  refine lv_iload_n hx hb d_TM_code_4 rfl (lv_at hl 1 rfl) ?_
  refine lv_iload_n hx hb d_TM_code_5 rfl (lv_at hl 2 rfl) ?_
  refine mv_i (va_runV (C := "TaleMachine$Script") (As := [.int wd, .int 3]) (rest := []) ⟨hx, hb, hml, hown, hts⟩ (c_Script_append_3 l D cI cZ cJ sc by_ wd _ ) (cwV 2 hts (gInV k_126 k_127 k_128 k_100 k_125) rfl rfl rfl (by decide +kernel) ⟨Nat.le_of_ble_eq_true rfl, Nat.le_of_ble_eq_true rfl⟩) (pre_V (va_recv hK hP (q := ("TaleMachine$Script", F_Script, 2)) rfl (q0 := 1) rfl) (hP.sub [1, 2] rfl) (hK.sub [0, 1, 2] rfl) (hD.sub [1, 2] (by decide) rfl) hT) rfl rfl hl.1 rfl (lv_room (Nat.le_of_ble_eq_true rfl)) d_TM_code_6 ⟨Nat.le_of_ble_eq_true rfl, Nat.le_of_ble_eq_true rfl⟩) hP hD hS hA [1, 2] [0] rfl rfl (by decide) (by decide) (wr := [(h, .inr (7, [.ref sc, .ref wo, .ref hi, .ref te]))]) (wn := fun _ => []) (fun _ _ h9 => h9) (fun r1 _ H locs hp2 hP hD hS => ?_)
  have hP : va_P D cL [(h, .inr (7, [.ref sc, .ref wo, .ref hi, .ref te]))] H := hP
  have hD : va_D A [(h, .inr (7, [.ref sc, .ref wo, .ref hi, .ref te]))] := hD
  obtain rfl : r1 = 1 := hp2
  exact end_z hx hb hr hlocks hS (u := ()) (r := 1) (at_end (hP.sub (ws' := []) [] rfl) (hD.sub (ws' := []) [] (by decide) rfl)) (rfl) (by decide) (Nat.le_of_ble_eq_true rfl) (Nat.le_of_ble_eq_true rfl) d_TM_code_9

set_option maxHeartbeats 4000000 in
set_option maxRecDepth 100000 in
theorem c_Script_append_4 (l : Launch) (D : va_G) (cI cZ cJ : ClassId) (h by_ : Nat) (wd : Int32) (sz : Nat)  : Met l y_Script_append (.code y_Script_append prog_4_method_2_code 4 (some .boolean) :: AW) ({ frames := 0, cells := 0, slots := 0, locals := 0 }) (va_Pc [.ref h, .int wd, .int 4] (pre_ D [(h, .inr (2, [.ref by_, .int 0])), (by_, .inl (cI, 300, .inl (fun _ => 0)))] [(cI, .int), (cZ, .boolean), (cJ, .long)] sz)) (va_Qi (fun (r : Int32) (u : Unit) => r = 1) (fun _ t => post_ D (va_A [(h, .inr (2, [.ref by_, .int 0])), (by_, .inl (cI, 300, .inl (fun _ => 0)))] sz) [] t) (va_A [(h, .inr (2, [.ref by_, .int 0])), (by_, .inl (cI, 300, .inl (fun _ => 0)))] sz)) 0 0 (va_A [(h, .inr (2, [.ref by_, .int 0])), (by_, .inl (cI, 300, .inl (fun _ => 0)))] sz) := by
  refine Met.ofW (cc := prog_4_method_2_code) (maxL := 4) (ret := (some .boolean)) (by decide) rfl ?_
  intro p e s m args below meth c s₁ B hml hv
  obtain ⟨rfl, rfl, hP, hK, hD0, hT⟩ := hv
  have hx := B.exec
  have hb := B.bytes
  have hr := B.returns
  have hts0 := atoms_spec (ws := .code y_Script_append prog_4_method_2_code 4 (some .boolean) :: AW) B.pre
  have hts : ∀ w ∈ AW, w.before [.ref h, .int wd, .int 4].toArray s = true := fun w h => hts0 w (List.mem_cons_of_mem _ h)
  have hown : s.vm.findClass "TaleMachine$Script" = some m.cls := findClass_of_methodNamed B.named
  have hlocks := B.notSynchronized
  have hD := hD0.self (sz := s.heap.size)
  generalize hAe : va_A [(h, .inr (2, [.ref by_, .int 0])), (by_, .inl (cI, 300, .inl (fun _ => 0)))] s.heap.size = A at hD ⊢
  have hA : ∀ q : Nat, s.heap.size ≤ q → A q := fun q h => by rw [← hAe]; exact Or.inr h
  have hS : va_S A s.heap s.heap [] := va_S.rf
  have hl := lv_entry ([.ref h, .int wd, .int 4]) (n := 4) (Nat.le_of_ble_eq_true rfl)
  rw [lg_entry_eq]
  generalize (lg_sl ([.ref h, .int wd, .int 4]) ++ List.replicate (4 - (lg_sl ([.ref h, .int wd, .int 4])).length) Slot.unset).toArray = ls at hl ⊢
  have hl : lv_has ls 4 [(0, .ref h), (1, .int wd), (2, .int 4)] := hl
  refine lv_iload_n hx hb d_Script_append_0 rfl (lv_at hl 2 rfl) ?_
  refine lv_iconst (v := 1) hx hb d_Script_append_1 (by decide) ?_
  refine lv_icmp_lt hx hb d_Script_append_2 (tgt := 22) (by decide) (fun hz => absurd hz (by decide)) (fun _ => ?_)
  refine lv_iload_n hx hb d_Script_append_5 rfl (lv_at hl 2 rfl) ?_
  refine lv_iconst (v := 4) hx hb d_Script_append_6 (by decide) ?_
  refine lv_icmp_gt hx hb d_Script_append_7 (tgt := 22) (by decide) (fun hz => absurd hz (by decide)) (fun _ => ?_)
  refine lv_aload_n hx hb d_Script_append_10 rfl (lv_at hl 0 rfl) ?_
  refine va_get (D := D) (ci := 2) (v := .int 0) (C := "TaleMachine$Script") (T := F_Script) (N := 2) hx hb hts in_Script hown hK hP 0 rfl rfl 1 (by decide) (hts _ k_124) (fun _ h9 => h9) rfl d_Script_append_11 ?_
  refine lv_iload_n hx hb d_Script_append_14 rfl (lv_at hl 2 rfl) ?_
  refine lv_iadd hx hb d_Script_append_15 ?_
  refine lv_topi (fun z1 hz1 => ?_)
  obtain rfl : z1 = 4 := hz1.trans (by decide)
  refine lv_sipush (v := 300) hx hb d_Script_append_16 (by decide) ?_
  refine lv_icmp_le hx hb d_Script_append_19 (tgt := 24) (by decide) (fun _ => ?_) (fun hz => absurd (by decide) hz)
  refine lv_iload_n hx hb d_Script_append_24 rfl (lv_at hl 2 rfl) ?_
  refine lv_iconst (v := 1) hx hb d_Script_append_25 (by decide) ?_
  refine lv_isub hx hb d_Script_append_26 ?_
  refine lv_topi (fun z2 hz2 => ?_)
  obtain rfl : z2 = 3 := hz2.trans (by decide)
  refine lv_istore_n (lv' := [(3, .int 3), (0, .ref h), (1, .int wd), (2, .int 4)]) hx hb d_Script_append_27 rfl hl (by decide) rfl (fun ls hl => ?_)
  refine lv_iload_n hx hb d_Script_append_28 rfl (lv_at hl 0 rfl) ?_
  refine lv_if_lt hx hb d_Script_append_29 (tgt := 67) (by decide) (fun hz => absurd hz (by decide)) (fun _ => ?_)
  refine lv_aload_n hx hb d_Script_append_32 rfl (lv_at hl 1 rfl) ?_
  refine va_get (D := D) (ci := 2) (v := .ref by_) (C := "TaleMachine$Script") (T := F_Script) (N := 2) hx hb hts in_Script hown hK hP 0 rfl rfl 0 (by decide) (hts _ k_45) (fun _ h9 => h9) rfl d_Script_append_33 ?_
  refine lv_aload_n hx hb d_Script_append_36 rfl (lv_at hl 1 rfl) ?_
  refine va_get (D := D) (ci := 2) (v := .int 0) (C := "TaleMachine$Script") (T := F_Script) (N := 2) hx hb hts in_Script hown hK hP 0 rfl rfl 1 (by decide) (hts _ k_124) (fun _ h9 => h9) rfl d_Script_append_37 ?_
  refine lv_iload_n hx hb d_Script_append_40 rfl (lv_at hl 2 rfl) ?_
  refine lv_bipush (v := 8) hx hb d_Script_append_41 (by decide) ?_
  refine lv_iload_n hx hb d_Script_append_43 rfl (lv_at hl 0 rfl) ?_
  refine lv_imul hx hb d_Script_append_44 ?_
  refine lv_topi (fun z3 hz3 => ?_)
  obtain rfl : z3 = 24 := hz3.trans (by decide)
  refine lv_iushr hx hb d_Script_append_45 rfl ?_
  refine lv_topi (fun z4 hz4 => ?_)
  refine lv_sipush (v := 255) hx hb d_Script_append_46 (by decide) ?_
  refine lv_iand hx hb d_Script_append_49 ?_
  refine lv_topi (fun z5 hz5 => ?_)
  refine va_iast hx hb hK hP hD hS 1 0 rfl rfl (i := 0) (x := z5) (in_c (by decide)) d_Script_append_50 (fun H locs hP hD hS => ?_)
  have hP : va_P D cL [(h, .inr (2, [.ref by_, .int 0])), (by_, .inl (cI, 300, .inl (upd (fun _ => 0) (0 : Int32).toNatClampNeg z5)))] H := hP
  have hD : va_D A [(h, .inr (2, [.ref by_, .int 0])), (by_, .inl (cI, 300, .inl (upd (fun _ => 0) (0 : Int32).toNatClampNeg z5)))] := hD
  generalize hff6 : upd (fun _ => 0) (0 : Int32).toNatClampNeg z5 = f6 at hP hD
  refine lv_aload_n hx hb d_Script_append_51 rfl (lv_at hl 1 rfl) ?_
  refine lv_dup hx hb d_Script_append_52 rfl ?_
  refine va_get (D := D) (ci := 2) (v := .int 0) (C := "TaleMachine$Script") (T := F_Script) (N := 2) hx hb hts in_Script hown hK hP 0 rfl rfl 1 (by decide) (hts _ k_124) (fun _ h9 => h9) rfl d_Script_append_53 ?_
  refine lv_iconst (v := 1) hx hb d_Script_append_56 (by decide) ?_
  refine lv_iadd hx hb d_Script_append_57 ?_
  refine lv_topi (fun z7 hz7 => ?_)
  obtain rfl : z7 = 1 := hz7.trans (by decide)
  refine va_put (D := D) (ci := 2) (v := .int 1) (ty := .int) (C := "TaleMachine$Script") (T := F_Script) (N := 2) hx hb hts in_Script t_Script t_Script_ok n_Script hown hK hP hD hS 0 rfl rfl 1 (by decide) (hts _ k_124) (fun _ h9 => h9) rfl (by decide +kernel) rfl rfl (Nat.le_of_ble_eq_true rfl) d_Script_append_58 (fun H locs hP hD hS => ?_)
  have hP : va_P D cL [(h, .inr (2, [.ref by_, .int 1])), (by_, .inl (cI, 300, .inl f6))] H := hP
  have hD : va_D A [(h, .inr (2, [.ref by_, .int 1])), (by_, .inl (cI, 300, .inl f6))] := hD
  refine lv_iinc (v := 2) (lv' := [(3, .int 2), (0, .ref h), (1, .int wd), (2, .int 4)]) hx hb d_Script_append_61 hl (k := 0) rfl (by decide) (by decide) rfl (fun ls hl => ?_)
  refine lv_goto hx hb d_Script_append_64 (tgt := 28) (by decide) ?_
  refine lv_iload_n hx hb d_Script_append_28 rfl (lv_at hl 0 rfl) ?_
  refine lv_if_lt hx hb d_Script_append_29 (tgt := 67) (by decide) (fun hz => absurd hz (by decide)) (fun _ => ?_)
  refine lv_aload_n hx hb d_Script_append_32 rfl (lv_at hl 1 rfl) ?_
  refine va_get (D := D) (ci := 2) (v := .ref by_) (C := "TaleMachine$Script") (T := F_Script) (N := 2) hx hb hts in_Script hown hK hP 0 rfl rfl 0 (by decide) (hts _ k_45) (fun _ h9 => h9) rfl d_Script_append_33 ?_
  refine lv_aload_n hx hb d_Script_append_36 rfl (lv_at hl 1 rfl) ?_
  refine va_get (D := D) (ci := 2) (v := .int 1) (C := "TaleMachine$Script") (T := F_Script) (N := 2) hx hb hts in_Script hown hK hP 0 rfl rfl 1 (by decide) (hts _ k_124) (fun _ h9 => h9) rfl d_Script_append_37 ?_
  refine lv_iload_n hx hb d_Script_append_40 rfl (lv_at hl 2 rfl) ?_
  refine lv_bipush (v := 8) hx hb d_Script_append_41 (by decide) ?_
  refine lv_iload_n hx hb d_Script_append_43 rfl (lv_at hl 0 rfl) ?_
  refine lv_imul hx hb d_Script_append_44 ?_
  refine lv_topi (fun z8 hz8 => ?_)
  obtain rfl : z8 = 16 := hz8.trans (by decide)
  refine lv_iushr hx hb d_Script_append_45 rfl ?_
  refine lv_topi (fun z9 hz9 => ?_)
  refine lv_sipush (v := 255) hx hb d_Script_append_46 (by decide) ?_
  refine lv_iand hx hb d_Script_append_49 ?_
  refine lv_topi (fun z10 hz10 => ?_)
  refine va_iast hx hb hK hP hD hS 1 0 rfl rfl (i := 1) (x := z10) (in_c (by decide)) d_Script_append_50 (fun H locs hP hD hS => ?_)
  have hP : va_P D cL [(h, .inr (2, [.ref by_, .int 1])), (by_, .inl (cI, 300, .inl (upd f6 (1 : Int32).toNatClampNeg z10)))] H := hP
  have hD : va_D A [(h, .inr (2, [.ref by_, .int 1])), (by_, .inl (cI, 300, .inl (upd f6 (1 : Int32).toNatClampNeg z10)))] := hD
  generalize hff11 : upd f6 (1 : Int32).toNatClampNeg z10 = f11 at hP hD
  refine lv_aload_n hx hb d_Script_append_51 rfl (lv_at hl 1 rfl) ?_
  refine lv_dup hx hb d_Script_append_52 rfl ?_
  refine va_get (D := D) (ci := 2) (v := .int 1) (C := "TaleMachine$Script") (T := F_Script) (N := 2) hx hb hts in_Script hown hK hP 0 rfl rfl 1 (by decide) (hts _ k_124) (fun _ h9 => h9) rfl d_Script_append_53 ?_
  refine lv_iconst (v := 1) hx hb d_Script_append_56 (by decide) ?_
  refine lv_iadd hx hb d_Script_append_57 ?_
  refine lv_topi (fun z12 hz12 => ?_)
  obtain rfl : z12 = 2 := hz12.trans (by decide)
  refine va_put (D := D) (ci := 2) (v := .int 2) (ty := .int) (C := "TaleMachine$Script") (T := F_Script) (N := 2) hx hb hts in_Script t_Script t_Script_ok n_Script hown hK hP hD hS 0 rfl rfl 1 (by decide) (hts _ k_124) (fun _ h9 => h9) rfl (by decide +kernel) rfl rfl (Nat.le_of_ble_eq_true rfl) d_Script_append_58 (fun H locs hP hD hS => ?_)
  have hP : va_P D cL [(h, .inr (2, [.ref by_, .int 2])), (by_, .inl (cI, 300, .inl f11))] H := hP
  have hD : va_D A [(h, .inr (2, [.ref by_, .int 2])), (by_, .inl (cI, 300, .inl f11))] := hD
  refine lv_iinc (v := 1) (lv' := [(3, .int 1), (0, .ref h), (1, .int wd), (2, .int 4)]) hx hb d_Script_append_61 hl (k := 0) rfl (by decide) (by decide) rfl (fun ls hl => ?_)
  refine lv_goto hx hb d_Script_append_64 (tgt := 28) (by decide) ?_
  refine lv_iload_n hx hb d_Script_append_28 rfl (lv_at hl 0 rfl) ?_
  refine lv_if_lt hx hb d_Script_append_29 (tgt := 67) (by decide) (fun hz => absurd hz (by decide)) (fun _ => ?_)
  refine lv_aload_n hx hb d_Script_append_32 rfl (lv_at hl 1 rfl) ?_
  refine va_get (D := D) (ci := 2) (v := .ref by_) (C := "TaleMachine$Script") (T := F_Script) (N := 2) hx hb hts in_Script hown hK hP 0 rfl rfl 0 (by decide) (hts _ k_45) (fun _ h9 => h9) rfl d_Script_append_33 ?_
  refine lv_aload_n hx hb d_Script_append_36 rfl (lv_at hl 1 rfl) ?_
  refine va_get (D := D) (ci := 2) (v := .int 2) (C := "TaleMachine$Script") (T := F_Script) (N := 2) hx hb hts in_Script hown hK hP 0 rfl rfl 1 (by decide) (hts _ k_124) (fun _ h9 => h9) rfl d_Script_append_37 ?_
  refine lv_iload_n hx hb d_Script_append_40 rfl (lv_at hl 2 rfl) ?_
  refine lv_bipush (v := 8) hx hb d_Script_append_41 (by decide) ?_
  refine lv_iload_n hx hb d_Script_append_43 rfl (lv_at hl 0 rfl) ?_
  refine lv_imul hx hb d_Script_append_44 ?_
  refine lv_topi (fun z13 hz13 => ?_)
  obtain rfl : z13 = 8 := hz13.trans (by decide)
  refine lv_iushr hx hb d_Script_append_45 rfl ?_
  refine lv_topi (fun z14 hz14 => ?_)
  refine lv_sipush (v := 255) hx hb d_Script_append_46 (by decide) ?_
  refine lv_iand hx hb d_Script_append_49 ?_
  refine lv_topi (fun z15 hz15 => ?_)
  refine va_iast hx hb hK hP hD hS 1 0 rfl rfl (i := 2) (x := z15) (in_c (by decide)) d_Script_append_50 (fun H locs hP hD hS => ?_)
  have hP : va_P D cL [(h, .inr (2, [.ref by_, .int 2])), (by_, .inl (cI, 300, .inl (upd f11 (2 : Int32).toNatClampNeg z15)))] H := hP
  have hD : va_D A [(h, .inr (2, [.ref by_, .int 2])), (by_, .inl (cI, 300, .inl (upd f11 (2 : Int32).toNatClampNeg z15)))] := hD
  generalize hff16 : upd f11 (2 : Int32).toNatClampNeg z15 = f16 at hP hD
  refine lv_aload_n hx hb d_Script_append_51 rfl (lv_at hl 1 rfl) ?_
  refine lv_dup hx hb d_Script_append_52 rfl ?_
  refine va_get (D := D) (ci := 2) (v := .int 2) (C := "TaleMachine$Script") (T := F_Script) (N := 2) hx hb hts in_Script hown hK hP 0 rfl rfl 1 (by decide) (hts _ k_124) (fun _ h9 => h9) rfl d_Script_append_53 ?_
  refine lv_iconst (v := 1) hx hb d_Script_append_56 (by decide) ?_
  refine lv_iadd hx hb d_Script_append_57 ?_
  refine lv_topi (fun z17 hz17 => ?_)
  obtain rfl : z17 = 3 := hz17.trans (by decide)
  refine va_put (D := D) (ci := 2) (v := .int 3) (ty := .int) (C := "TaleMachine$Script") (T := F_Script) (N := 2) hx hb hts in_Script t_Script t_Script_ok n_Script hown hK hP hD hS 0 rfl rfl 1 (by decide) (hts _ k_124) (fun _ h9 => h9) rfl (by decide +kernel) rfl rfl (Nat.le_of_ble_eq_true rfl) d_Script_append_58 (fun H locs hP hD hS => ?_)
  have hP : va_P D cL [(h, .inr (2, [.ref by_, .int 3])), (by_, .inl (cI, 300, .inl f16))] H := hP
  have hD : va_D A [(h, .inr (2, [.ref by_, .int 3])), (by_, .inl (cI, 300, .inl f16))] := hD
  refine lv_iinc (v := 0) (lv' := [(3, .int 0), (0, .ref h), (1, .int wd), (2, .int 4)]) hx hb d_Script_append_61 hl (k := 0) rfl (by decide) (by decide) rfl (fun ls hl => ?_)
  refine lv_goto hx hb d_Script_append_64 (tgt := 28) (by decide) ?_
  refine lv_iload_n hx hb d_Script_append_28 rfl (lv_at hl 0 rfl) ?_
  refine lv_if_lt hx hb d_Script_append_29 (tgt := 67) (by decide) (fun hz => absurd hz (by decide)) (fun _ => ?_)
  refine lv_aload_n hx hb d_Script_append_32 rfl (lv_at hl 1 rfl) ?_
  refine va_get (D := D) (ci := 2) (v := .ref by_) (C := "TaleMachine$Script") (T := F_Script) (N := 2) hx hb hts in_Script hown hK hP 0 rfl rfl 0 (by decide) (hts _ k_45) (fun _ h9 => h9) rfl d_Script_append_33 ?_
  refine lv_aload_n hx hb d_Script_append_36 rfl (lv_at hl 1 rfl) ?_
  refine va_get (D := D) (ci := 2) (v := .int 3) (C := "TaleMachine$Script") (T := F_Script) (N := 2) hx hb hts in_Script hown hK hP 0 rfl rfl 1 (by decide) (hts _ k_124) (fun _ h9 => h9) rfl d_Script_append_37 ?_
  refine lv_iload_n hx hb d_Script_append_40 rfl (lv_at hl 2 rfl) ?_
  refine lv_bipush (v := 8) hx hb d_Script_append_41 (by decide) ?_
  refine lv_iload_n hx hb d_Script_append_43 rfl (lv_at hl 0 rfl) ?_
  refine lv_imul hx hb d_Script_append_44 ?_
  refine lv_topi (fun z18 hz18 => ?_)
  obtain rfl : z18 = 0 := hz18.trans (by decide)
  refine lv_iushr hx hb d_Script_append_45 rfl ?_
  refine lv_topi (fun z19 hz19 => ?_)
  refine lv_sipush (v := 255) hx hb d_Script_append_46 (by decide) ?_
  refine lv_iand hx hb d_Script_append_49 ?_
  refine lv_topi (fun z20 hz20 => ?_)
  refine va_iast hx hb hK hP hD hS 1 0 rfl rfl (i := 3) (x := z20) (in_c (by decide)) d_Script_append_50 (fun H locs hP hD hS => ?_)
  have hP : va_P D cL [(h, .inr (2, [.ref by_, .int 3])), (by_, .inl (cI, 300, .inl (upd f16 (3 : Int32).toNatClampNeg z20)))] H := hP
  have hD : va_D A [(h, .inr (2, [.ref by_, .int 3])), (by_, .inl (cI, 300, .inl (upd f16 (3 : Int32).toNatClampNeg z20)))] := hD
  generalize hff21 : upd f16 (3 : Int32).toNatClampNeg z20 = f21 at hP hD
  refine lv_aload_n hx hb d_Script_append_51 rfl (lv_at hl 1 rfl) ?_
  refine lv_dup hx hb d_Script_append_52 rfl ?_
  refine va_get (D := D) (ci := 2) (v := .int 3) (C := "TaleMachine$Script") (T := F_Script) (N := 2) hx hb hts in_Script hown hK hP 0 rfl rfl 1 (by decide) (hts _ k_124) (fun _ h9 => h9) rfl d_Script_append_53 ?_
  refine lv_iconst (v := 1) hx hb d_Script_append_56 (by decide) ?_
  refine lv_iadd hx hb d_Script_append_57 ?_
  refine lv_topi (fun z22 hz22 => ?_)
  obtain rfl : z22 = 4 := hz22.trans (by decide)
  refine va_put (D := D) (ci := 2) (v := .int 4) (ty := .int) (C := "TaleMachine$Script") (T := F_Script) (N := 2) hx hb hts in_Script t_Script t_Script_ok n_Script hown hK hP hD hS 0 rfl rfl 1 (by decide) (hts _ k_124) (fun _ h9 => h9) rfl (by decide +kernel) rfl rfl (Nat.le_of_ble_eq_true rfl) d_Script_append_58 (fun H locs hP hD hS => ?_)
  have hP : va_P D cL [(h, .inr (2, [.ref by_, .int 4])), (by_, .inl (cI, 300, .inl f21))] H := hP
  have hD : va_D A [(h, .inr (2, [.ref by_, .int 4])), (by_, .inl (cI, 300, .inl f21))] := hD
  refine lv_iinc (v := (-1)) (lv' := [(3, .int (-1)), (0, .ref h), (1, .int wd), (2, .int 4)]) hx hb d_Script_append_61 hl (k := 0) rfl (by decide) (by decide) rfl (fun ls hl => ?_)
  refine lv_goto hx hb d_Script_append_64 (tgt := 28) (by decide) ?_
  refine lv_iload_n hx hb d_Script_append_28 rfl (lv_at hl 0 rfl) ?_
  refine lv_if_lt hx hb d_Script_append_29 (tgt := 67) (by decide) (fun _ => ?_) (fun hz => absurd (by decide) hz)
  refine lv_iconst (v := 1) hx hb d_Script_append_67 (by decide) ?_
  exact end_z hx hb hr hlocks hS (u := ()) (r := 1) (at_end (hP.sub (ws' := []) [] rfl) (hD.sub (ws' := []) [] (by decide) rfl)) (rfl) (by decide) (Nat.le_of_ble_eq_true rfl) (Nat.le_of_ble_eq_true rfl) d_Script_append_68

set_option maxHeartbeats 4000000 in
set_option maxRecDepth 100000 in
theorem c_TM_code_4 (l : Launch) (D : va_G) (cI cZ cJ : ClassId) (h sc by_ wo st fl fn li rc kd it pa hi pt sv iz te fr va sa re vk vi sk si rk ri : Nat) (wd : Int32) (sz : Nat)  : Met l y_TM_code (.code y_TM_code prog_1_method_2_code 3 (some .boolean) :: AW) ({ frames := 1, cells := 0, slots := 0, locals := 23 }) (va_Pc [.ref h, .int wd, .int 4] (pre_ D [(h, .inr (7, [.ref sc, .ref wo, .ref hi, .ref te])), (sc, .inr (2, [.ref by_, .int 0])), (by_, .inl (cI, 300, .inl (fun _ => 0)))] [(cI, .int), (cZ, .boolean), (cJ, .long)] sz)) (va_Qi (fun (r : Int32) (u : Unit) => r = 1) (fun _ t => post_ D (va_A [(h, .inr (7, [.ref sc, .ref wo, .ref hi, .ref te])), (sc, .inr (2, [.ref by_, .int 0])), (by_, .inl (cI, 300, .inl (fun _ => 0)))] sz) [] t) (va_A [(h, .inr (7, [.ref sc, .ref wo, .ref hi, .ref te])), (sc, .inr (2, [.ref by_, .int 0])), (by_, .inl (cI, 300, .inl (fun _ => 0)))] sz)) 0 0 (va_A [(h, .inr (7, [.ref sc, .ref wo, .ref hi, .ref te])), (sc, .inr (2, [.ref by_, .int 0])), (by_, .inl (cI, 300, .inl (fun _ => 0)))] sz) := by
  refine Met.ofW (cc := prog_1_method_2_code) (maxL := 3) (ret := (some .boolean)) (by decide) rfl ?_
  intro p e s m args below meth c s₁ B hml hv
  obtain ⟨rfl, rfl, hP, hK, hD0, hT⟩ := hv
  have hx := B.exec
  have hb := B.bytes
  have hr := B.returns
  have hts0 := atoms_spec (ws := .code y_TM_code prog_1_method_2_code 3 (some .boolean) :: AW) B.pre
  have hts : ∀ w ∈ AW, w.before [.ref h, .int wd, .int 4].toArray s = true := fun w h => hts0 w (List.mem_cons_of_mem _ h)
  have hown : s.vm.findClass "TaleMachine" = some m.cls := findClass_of_methodNamed B.named
  have hlocks := B.notSynchronized
  have hD := hD0.self (sz := s.heap.size)
  generalize hAe : va_A [(h, .inr (7, [.ref sc, .ref wo, .ref hi, .ref te])), (sc, .inr (2, [.ref by_, .int 0])), (by_, .inl (cI, 300, .inl (fun _ => 0)))] s.heap.size = A at hD ⊢
  have hA : ∀ q : Nat, s.heap.size ≤ q → A q := fun q h => by rw [← hAe]; exact Or.inr h
  have hS : va_S A s.heap s.heap [] := va_S.rf
  have hl := lv_entry ([.ref h, .int wd, .int 4]) (n := 3) (Nat.le_of_ble_eq_true rfl)
  rw [lg_entry_eq]
  generalize (lg_sl ([.ref h, .int wd, .int 4]) ++ List.replicate (3 - (lg_sl ([.ref h, .int wd, .int 4])).length) Slot.unset).toArray = ls at hl ⊢
  have hl : lv_has ls 3 [(0, .ref h), (1, .int wd), (2, .int 4)] := hl
  refine lv_aload_n hx hb d_TM_code_0 rfl (lv_at hl 0 rfl) ?_
  refine va_get (D := D) (ci := 7) (v := .ref sc) (C := "TaleMachine") (T := F_TM) (N := 4) hx hb hts in_TM hown hK hP 0 rfl rfl 0 (by decide) (hts _ k_103) (fun _ h9 => h9) rfl d_TM_code_1 ?_
  refine lv_iload_n hx hb d_TM_code_4 rfl (lv_at hl 1 rfl) ?_
  refine lv_iload_n hx hb d_TM_code_5 rfl (lv_at hl 2 rfl) ?_
  refine mv_i (va_runV (C := "TaleMachine$Script") (As := [.int wd, .int 4]) (rest := []) ⟨hx, hb, hml, hown, hts⟩ (c_Script_append_4 l D cI cZ cJ sc by_ wd _ ) (cwV 2 hts (gInV k_126 k_127 k_128 k_100 k_125) rfl rfl rfl (by decide +kernel) ⟨Nat.le_of_ble_eq_true rfl, Nat.le_of_ble_eq_true rfl⟩) (pre_V (va_recv hK hP (q := ("TaleMachine$Script", F_Script, 2)) rfl (q0 := 1) rfl) (hP.sub [1, 2] rfl) (hK.sub [0, 1, 2] rfl) (hD.sub [1, 2] (by decide) rfl) hT) rfl rfl hl.1 rfl (lv_room (Nat.le_of_ble_eq_true rfl)) d_TM_code_6 ⟨Nat.le_of_ble_eq_true rfl, Nat.le_of_ble_eq_true rfl⟩) hP hD hS hA [1, 2] [0] rfl rfl (by decide) (by decide) (wr := [(h, .inr (7, [.ref sc, .ref wo, .ref hi, .ref te]))]) (wn := fun _ => []) (fun _ _ h9 => h9) (fun r1 _ H locs hp2 hP hD hS => ?_)
  have hP : va_P D cL [(h, .inr (7, [.ref sc, .ref wo, .ref hi, .ref te]))] H := hP
  have hD : va_D A [(h, .inr (7, [.ref sc, .ref wo, .ref hi, .ref te]))] := hD
  obtain rfl : r1 = 1 := hp2
  exact end_z hx hb hr hlocks hS (u := ()) (r := 1) (at_end (hP.sub (ws' := []) [] rfl) (hD.sub (ws' := []) [] (by decide) rfl)) (rfl) (by decide) (Nat.le_of_ble_eq_true rfl) (Nat.le_of_ble_eq_true rfl) d_TM_code_9

set_option maxHeartbeats 4000000 in
set_option maxRecDepth 100000 in
theorem c_Script_append_lo (l : Launch) (D : va_G) (cI cZ cJ : ClassId) (h by_ : Nat) (wd k : Int32) (sz : Nat) (hk : k < 1) : Met l y_Script_append (.code y_Script_append prog_4_method_2_code 4 (some .boolean) :: AW) ({ frames := 0, cells := 0, slots := 0, locals := 0 }) (va_Pc [.ref h, .int wd, .int k] (pre_ D [(h, .inr (2, [.ref by_, .int 0])), (by_, .inl (cI, 300, .inl (fun _ => 0)))] [(cI, .int), (cZ, .boolean), (cJ, .long)] sz)) (va_Qi (fun (r : Int32) (u : Unit) => r = 0) (fun _ t => post_ D (va_A [(h, .inr (2, [.ref by_, .int 0])), (by_, .inl (cI, 300, .inl (fun _ => 0)))] sz) [] t) (va_A [(h, .inr (2, [.ref by_, .int 0])), (by_, .inl (cI, 300, .inl (fun _ => 0)))] sz)) 0 0 (va_A [(h, .inr (2, [.ref by_, .int 0])), (by_, .inl (cI, 300, .inl (fun _ => 0)))] sz) := by
  refine Met.ofW (cc := prog_4_method_2_code) (maxL := 4) (ret := (some .boolean)) (by decide) rfl ?_
  intro p e s m args below meth c s₁ B hml hv
  obtain ⟨rfl, rfl, hP, hK, hD0, hT⟩ := hv
  have hx := B.exec
  have hb := B.bytes
  have hr := B.returns
  have hts0 := atoms_spec (ws := .code y_Script_append prog_4_method_2_code 4 (some .boolean) :: AW) B.pre
  have hts : ∀ w ∈ AW, w.before [.ref h, .int wd, .int k].toArray s = true := fun w h => hts0 w (List.mem_cons_of_mem _ h)
  have hown : s.vm.findClass "TaleMachine$Script" = some m.cls := findClass_of_methodNamed B.named
  have hlocks := B.notSynchronized
  have hD := hD0.self (sz := s.heap.size)
  generalize hAe : va_A [(h, .inr (2, [.ref by_, .int 0])), (by_, .inl (cI, 300, .inl (fun _ => 0)))] s.heap.size = A at hD ⊢
  have hA : ∀ q : Nat, s.heap.size ≤ q → A q := fun q h => by rw [← hAe]; exact Or.inr h
  have hS : va_S A s.heap s.heap [] := va_S.rf
  have hl := lv_entry ([.ref h, .int wd, .int k]) (n := 4) (Nat.le_of_ble_eq_true rfl)
  rw [lg_entry_eq]
  generalize (lg_sl ([.ref h, .int wd, .int k]) ++ List.replicate (4 - (lg_sl ([.ref h, .int wd, .int k])).length) Slot.unset).toArray = ls at hl ⊢
  have hl : lv_has ls 4 [(0, .ref h), (1, .int wd), (2, .int k)] := hl
  refine lv_iload_n hx hb d_Script_append_0 rfl (lv_at hl 2 rfl) ?_
  refine lv_iconst (v := 1) hx hb d_Script_append_1 (by decide) ?_
  refine lv_icmp_lt hx hb d_Script_append_2 (tgt := 22) (by decide) (fun _ => ?_) (fun hz => absurd hk hz)
  refine lv_iconst (v := 0) hx hb d_Script_append_22 (by decide) ?_
  exact end_z hx hb hr hlocks hS (u := ()) (r := 0) (at_end (hP.sub (ws' := []) [] rfl) (hD.sub (ws' := []) [] (by decide) rfl)) (rfl) (by decide) (Nat.le_of_ble_eq_true rfl) (Nat.le_of_ble_eq_true rfl) d_Script_append_23

set_option maxHeartbeats 4000000 in
set_option maxRecDepth 100000 in
theorem c_TM_code_lo (l : Launch) (D : va_G) (cI cZ cJ : ClassId) (h sc by_ wo st fl fn li rc kd it pa hi pt sv iz te fr va sa re vk vi sk si rk ri : Nat) (wd k : Int32) (sz : Nat) (hk : k < 1) : Met l y_TM_code (.code y_TM_code prog_1_method_2_code 3 (some .boolean) :: AW) ({ frames := 1, cells := 0, slots := 0, locals := 23 }) (va_Pc [.ref h, .int wd, .int k] (pre_ D [(h, .inr (7, [.ref sc, .ref wo, .ref hi, .ref te])), (sc, .inr (2, [.ref by_, .int 0])), (by_, .inl (cI, 300, .inl (fun _ => 0)))] [(cI, .int), (cZ, .boolean), (cJ, .long)] sz)) (va_Qi (fun (r : Int32) (u : Unit) => r = 0) (fun _ t => post_ D (va_A [(h, .inr (7, [.ref sc, .ref wo, .ref hi, .ref te])), (sc, .inr (2, [.ref by_, .int 0])), (by_, .inl (cI, 300, .inl (fun _ => 0)))] sz) [] t) (va_A [(h, .inr (7, [.ref sc, .ref wo, .ref hi, .ref te])), (sc, .inr (2, [.ref by_, .int 0])), (by_, .inl (cI, 300, .inl (fun _ => 0)))] sz)) 0 0 (va_A [(h, .inr (7, [.ref sc, .ref wo, .ref hi, .ref te])), (sc, .inr (2, [.ref by_, .int 0])), (by_, .inl (cI, 300, .inl (fun _ => 0)))] sz) := by
  refine Met.ofW (cc := prog_1_method_2_code) (maxL := 3) (ret := (some .boolean)) (by decide) rfl ?_
  intro p e s m args below meth c s₁ B hml hv
  obtain ⟨rfl, rfl, hP, hK, hD0, hT⟩ := hv
  have hx := B.exec
  have hb := B.bytes
  have hr := B.returns
  have hts0 := atoms_spec (ws := .code y_TM_code prog_1_method_2_code 3 (some .boolean) :: AW) B.pre
  have hts : ∀ w ∈ AW, w.before [.ref h, .int wd, .int k].toArray s = true := fun w h => hts0 w (List.mem_cons_of_mem _ h)
  have hown : s.vm.findClass "TaleMachine" = some m.cls := findClass_of_methodNamed B.named
  have hlocks := B.notSynchronized
  have hD := hD0.self (sz := s.heap.size)
  generalize hAe : va_A [(h, .inr (7, [.ref sc, .ref wo, .ref hi, .ref te])), (sc, .inr (2, [.ref by_, .int 0])), (by_, .inl (cI, 300, .inl (fun _ => 0)))] s.heap.size = A at hD ⊢
  have hA : ∀ q : Nat, s.heap.size ≤ q → A q := fun q h => by rw [← hAe]; exact Or.inr h
  have hS : va_S A s.heap s.heap [] := va_S.rf
  have hl := lv_entry ([.ref h, .int wd, .int k]) (n := 3) (Nat.le_of_ble_eq_true rfl)
  rw [lg_entry_eq]
  generalize (lg_sl ([.ref h, .int wd, .int k]) ++ List.replicate (3 - (lg_sl ([.ref h, .int wd, .int k])).length) Slot.unset).toArray = ls at hl ⊢
  have hl : lv_has ls 3 [(0, .ref h), (1, .int wd), (2, .int k)] := hl
  refine lv_aload_n hx hb d_TM_code_0 rfl (lv_at hl 0 rfl) ?_
  refine va_get (D := D) (ci := 7) (v := .ref sc) (C := "TaleMachine") (T := F_TM) (N := 4) hx hb hts in_TM hown hK hP 0 rfl rfl 0 (by decide) (hts _ k_103) (fun _ h9 => h9) rfl d_TM_code_1 ?_
  refine lv_iload_n hx hb d_TM_code_4 rfl (lv_at hl 1 rfl) ?_
  refine lv_iload_n hx hb d_TM_code_5 rfl (lv_at hl 2 rfl) ?_
  refine mv_i (va_runV (C := "TaleMachine$Script") (As := [.int wd, .int k]) (rest := []) ⟨hx, hb, hml, hown, hts⟩ (c_Script_append_lo l D cI cZ cJ sc by_ wd k _ (by first | assumption | decide | omega)) (cwV 2 hts (gInV k_126 k_127 k_128 k_100 k_125) rfl rfl rfl (by decide +kernel) ⟨Nat.le_of_ble_eq_true rfl, Nat.le_of_ble_eq_true rfl⟩) (pre_V (va_recv hK hP (q := ("TaleMachine$Script", F_Script, 2)) rfl (q0 := 1) rfl) (hP.sub [1, 2] rfl) (hK.sub [0, 1, 2] rfl) (hD.sub [1, 2] (by decide) rfl) hT) rfl rfl hl.1 rfl (lv_room (Nat.le_of_ble_eq_true rfl)) d_TM_code_6 ⟨Nat.le_of_ble_eq_true rfl, Nat.le_of_ble_eq_true rfl⟩) hP hD hS hA [1, 2] [0] rfl rfl (by decide) (by decide) (wr := [(h, .inr (7, [.ref sc, .ref wo, .ref hi, .ref te]))]) (wn := fun _ => []) (fun _ _ h9 => h9) (fun r1 _ H locs hp2 hP hD hS => ?_)
  have hP : va_P D cL [(h, .inr (7, [.ref sc, .ref wo, .ref hi, .ref te]))] H := hP
  have hD : va_D A [(h, .inr (7, [.ref sc, .ref wo, .ref hi, .ref te]))] := hD
  obtain rfl : r1 = 0 := hp2
  exact end_z hx hb hr hlocks hS (u := ()) (r := 0) (at_end (hP.sub (ws' := []) [] rfl) (hD.sub (ws' := []) [] (by decide) rfl)) (rfl) (by decide) (Nat.le_of_ble_eq_true rfl) (Nat.le_of_ble_eq_true rfl) d_TM_code_9

set_option maxHeartbeats 4000000 in
set_option maxRecDepth 100000 in
theorem c_Script_append_hi (l : Launch) (D : va_G) (cI cZ cJ : ClassId) (h by_ : Nat) (wd k : Int32) (sz : Nat) (hk : 4 < k) : Met l y_Script_append (.code y_Script_append prog_4_method_2_code 4 (some .boolean) :: AW) ({ frames := 0, cells := 0, slots := 0, locals := 0 }) (va_Pc [.ref h, .int wd, .int k] (pre_ D [(h, .inr (2, [.ref by_, .int 0])), (by_, .inl (cI, 300, .inl (fun _ => 0)))] [(cI, .int), (cZ, .boolean), (cJ, .long)] sz)) (va_Qi (fun (r : Int32) (u : Unit) => r = 0) (fun _ t => post_ D (va_A [(h, .inr (2, [.ref by_, .int 0])), (by_, .inl (cI, 300, .inl (fun _ => 0)))] sz) [] t) (va_A [(h, .inr (2, [.ref by_, .int 0])), (by_, .inl (cI, 300, .inl (fun _ => 0)))] sz)) 0 0 (va_A [(h, .inr (2, [.ref by_, .int 0])), (by_, .inl (cI, 300, .inl (fun _ => 0)))] sz) := by
  refine Met.ofW (cc := prog_4_method_2_code) (maxL := 4) (ret := (some .boolean)) (by decide) rfl ?_
  intro p e s m args below meth c s₁ B hml hv
  obtain ⟨rfl, rfl, hP, hK, hD0, hT⟩ := hv
  have hx := B.exec
  have hb := B.bytes
  have hr := B.returns
  have hts0 := atoms_spec (ws := .code y_Script_append prog_4_method_2_code 4 (some .boolean) :: AW) B.pre
  have hts : ∀ w ∈ AW, w.before [.ref h, .int wd, .int k].toArray s = true := fun w h => hts0 w (List.mem_cons_of_mem _ h)
  have hown : s.vm.findClass "TaleMachine$Script" = some m.cls := findClass_of_methodNamed B.named
  have hlocks := B.notSynchronized
  have hD := hD0.self (sz := s.heap.size)
  generalize hAe : va_A [(h, .inr (2, [.ref by_, .int 0])), (by_, .inl (cI, 300, .inl (fun _ => 0)))] s.heap.size = A at hD ⊢
  have hA : ∀ q : Nat, s.heap.size ≤ q → A q := fun q h => by rw [← hAe]; exact Or.inr h
  have hS : va_S A s.heap s.heap [] := va_S.rf
  have hl := lv_entry ([.ref h, .int wd, .int k]) (n := 4) (Nat.le_of_ble_eq_true rfl)
  rw [lg_entry_eq]
  generalize (lg_sl ([.ref h, .int wd, .int k]) ++ List.replicate (4 - (lg_sl ([.ref h, .int wd, .int k])).length) Slot.unset).toArray = ls at hl ⊢
  have hl : lv_has ls 4 [(0, .ref h), (1, .int wd), (2, .int k)] := hl
  refine lv_iload_n hx hb d_Script_append_0 rfl (lv_at hl 2 rfl) ?_
  refine lv_iconst (v := 1) hx hb d_Script_append_1 (by decide) ?_
  refine lv_icmp_lt hx hb d_Script_append_2 (tgt := 22) (by decide) (fun hz => absurd hz (fun hz => absurd (Int32.lt_trans hk hz) (by decide))) (fun _ => ?_)
  refine lv_iload_n hx hb d_Script_append_5 rfl (lv_at hl 2 rfl) ?_
  refine lv_iconst (v := 4) hx hb d_Script_append_6 (by decide) ?_
  refine lv_icmp_gt hx hb d_Script_append_7 (tgt := 22) (by decide) (fun _ => ?_) (fun hz => absurd hk hz)
  refine lv_iconst (v := 0) hx hb d_Script_append_22 (by decide) ?_
  exact end_z hx hb hr hlocks hS (u := ()) (r := 0) (at_end (hP.sub (ws' := []) [] rfl) (hD.sub (ws' := []) [] (by decide) rfl)) (rfl) (by decide) (Nat.le_of_ble_eq_true rfl) (Nat.le_of_ble_eq_true rfl) d_Script_append_23

set_option maxHeartbeats 4000000 in
set_option maxRecDepth 100000 in
theorem c_TM_code_hi (l : Launch) (D : va_G) (cI cZ cJ : ClassId) (h sc by_ wo st fl fn li rc kd it pa hi pt sv iz te fr va sa re vk vi sk si rk ri : Nat) (wd k : Int32) (sz : Nat) (hk : 4 < k) : Met l y_TM_code (.code y_TM_code prog_1_method_2_code 3 (some .boolean) :: AW) ({ frames := 1, cells := 0, slots := 0, locals := 23 }) (va_Pc [.ref h, .int wd, .int k] (pre_ D [(h, .inr (7, [.ref sc, .ref wo, .ref hi, .ref te])), (sc, .inr (2, [.ref by_, .int 0])), (by_, .inl (cI, 300, .inl (fun _ => 0)))] [(cI, .int), (cZ, .boolean), (cJ, .long)] sz)) (va_Qi (fun (r : Int32) (u : Unit) => r = 0) (fun _ t => post_ D (va_A [(h, .inr (7, [.ref sc, .ref wo, .ref hi, .ref te])), (sc, .inr (2, [.ref by_, .int 0])), (by_, .inl (cI, 300, .inl (fun _ => 0)))] sz) [] t) (va_A [(h, .inr (7, [.ref sc, .ref wo, .ref hi, .ref te])), (sc, .inr (2, [.ref by_, .int 0])), (by_, .inl (cI, 300, .inl (fun _ => 0)))] sz)) 0 0 (va_A [(h, .inr (7, [.ref sc, .ref wo, .ref hi, .ref te])), (sc, .inr (2, [.ref by_, .int 0])), (by_, .inl (cI, 300, .inl (fun _ => 0)))] sz) := by
  refine Met.ofW (cc := prog_1_method_2_code) (maxL := 3) (ret := (some .boolean)) (by decide) rfl ?_
  intro p e s m args below meth c s₁ B hml hv
  obtain ⟨rfl, rfl, hP, hK, hD0, hT⟩ := hv
  have hx := B.exec
  have hb := B.bytes
  have hr := B.returns
  have hts0 := atoms_spec (ws := .code y_TM_code prog_1_method_2_code 3 (some .boolean) :: AW) B.pre
  have hts : ∀ w ∈ AW, w.before [.ref h, .int wd, .int k].toArray s = true := fun w h => hts0 w (List.mem_cons_of_mem _ h)
  have hown : s.vm.findClass "TaleMachine" = some m.cls := findClass_of_methodNamed B.named
  have hlocks := B.notSynchronized
  have hD := hD0.self (sz := s.heap.size)
  generalize hAe : va_A [(h, .inr (7, [.ref sc, .ref wo, .ref hi, .ref te])), (sc, .inr (2, [.ref by_, .int 0])), (by_, .inl (cI, 300, .inl (fun _ => 0)))] s.heap.size = A at hD ⊢
  have hA : ∀ q : Nat, s.heap.size ≤ q → A q := fun q h => by rw [← hAe]; exact Or.inr h
  have hS : va_S A s.heap s.heap [] := va_S.rf
  have hl := lv_entry ([.ref h, .int wd, .int k]) (n := 3) (Nat.le_of_ble_eq_true rfl)
  rw [lg_entry_eq]
  generalize (lg_sl ([.ref h, .int wd, .int k]) ++ List.replicate (3 - (lg_sl ([.ref h, .int wd, .int k])).length) Slot.unset).toArray = ls at hl ⊢
  have hl : lv_has ls 3 [(0, .ref h), (1, .int wd), (2, .int k)] := hl
  refine lv_aload_n hx hb d_TM_code_0 rfl (lv_at hl 0 rfl) ?_
  refine va_get (D := D) (ci := 7) (v := .ref sc) (C := "TaleMachine") (T := F_TM) (N := 4) hx hb hts in_TM hown hK hP 0 rfl rfl 0 (by decide) (hts _ k_103) (fun _ h9 => h9) rfl d_TM_code_1 ?_
  refine lv_iload_n hx hb d_TM_code_4 rfl (lv_at hl 1 rfl) ?_
  refine lv_iload_n hx hb d_TM_code_5 rfl (lv_at hl 2 rfl) ?_
  refine mv_i (va_runV (C := "TaleMachine$Script") (As := [.int wd, .int k]) (rest := []) ⟨hx, hb, hml, hown, hts⟩ (c_Script_append_hi l D cI cZ cJ sc by_ wd k _ (by first | assumption | decide | omega)) (cwV 2 hts (gInV k_126 k_127 k_128 k_100 k_125) rfl rfl rfl (by decide +kernel) ⟨Nat.le_of_ble_eq_true rfl, Nat.le_of_ble_eq_true rfl⟩) (pre_V (va_recv hK hP (q := ("TaleMachine$Script", F_Script, 2)) rfl (q0 := 1) rfl) (hP.sub [1, 2] rfl) (hK.sub [0, 1, 2] rfl) (hD.sub [1, 2] (by decide) rfl) hT) rfl rfl hl.1 rfl (lv_room (Nat.le_of_ble_eq_true rfl)) d_TM_code_6 ⟨Nat.le_of_ble_eq_true rfl, Nat.le_of_ble_eq_true rfl⟩) hP hD hS hA [1, 2] [0] rfl rfl (by decide) (by decide) (wr := [(h, .inr (7, [.ref sc, .ref wo, .ref hi, .ref te]))]) (wn := fun _ => []) (fun _ _ h9 => h9) (fun r1 _ H locs hp2 hP hD hS => ?_)
  have hP : va_P D cL [(h, .inr (7, [.ref sc, .ref wo, .ref hi, .ref te]))] H := hP
  have hD : va_D A [(h, .inr (7, [.ref sc, .ref wo, .ref hi, .ref te]))] := hD
  obtain rfl : r1 = 0 := hp2
  exact end_z hx hb hr hlocks hS (u := ()) (r := 0) (at_end (hP.sub (ws' := []) [] rfl) (hD.sub (ws' := []) [] (by decide) rfl)) (rfl) (by decide) (Nat.le_of_ble_eq_true rfl) (Nat.le_of_ble_eq_true rfl) d_TM_code_9
