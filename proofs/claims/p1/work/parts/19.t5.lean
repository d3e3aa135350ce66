set_option maxHeartbeats 4000000 in
set_option maxRecDepth 100000 in
theorem x_TM_object_2 (l : Launch) (hlt : l.stackTraces = false) (D : va_G) (cI cZ cJ : ClassId) (h sc by_ wo st fl fn li rc kd it pa hi pt sv iz te fr va sa re vk vi sk si rk ri : Nat) (oo b c3 : Int32) (sz : Nat) (ho : oo ≠ -1) : vt_Met l y_TM_object (.code y_TM_object prog_1_method_3_code 5 (some .int) :: AW) ({ frames := 6, cells := 1, slots := 6, locals := 100 }) (va_Pc [.ref h, .int oo, .int b, .int c3] (preT_ D [(h, .inr (7, [.ref sc, .ref wo, .ref hi, .ref te])), (wo, .inr (6, [.ref st, .int 0, .ref fl, .ref fn, .ref li, .int 0, .ref rc, .int 0, .int 0]))] [(cI, .int), (cZ, .boolean), (cJ, .long)] sz)) (vt_Q "java/lang/IllegalArgumentException" (va_A [(h, .inr (7, [.ref sc, .ref wo, .ref hi, .ref te])), (wo, .inr (6, [.ref st, .int 0, .ref fl, .ref fn, .ref li, .int 0, .ref rc, .int 0, .int 0]))] sz)) 1 6 (va_A [(h, .inr (7, [.ref sc, .ref wo, .ref hi, .ref te])), (wo, .inr (6, [.ref st, .int 0, .ref fl, .ref fn, .ref li, .int 0, .ref rc, .int 0, .int 0]))] sz) := by
  refine vt_ofW (cc := prog_1_method_3_code) (maxL := 5) (ret := (some .int)) (by decide) rfl ?_
  intro p e s m args below meth c s₁ B hml hne hv
  obtain ⟨rfl, ⟨rfl, hP, hK, hD0, hT⟩, hZ⟩ := hv
  have hx := B.exec
  have hb := B.bytes
  have hr := B.returns
  have hts0 := atoms_spec (ws := .code y_TM_object prog_1_method_3_code 5 (some .int) :: AW) B.pre
  have hts : ∀ w ∈ AW, w.before [.ref h, .int oo, .int b, .int c3].toArray s = true := fun w h => hts0 w (List.mem_cons_of_mem _ h)
  have hown : s.vm.findClass "TaleMachine" = some m.cls := findClass_of_methodNamed B.named
  have hlocks := B.notSynchronized
  have hns := vt_plain hP
  have hD := hD0.self (sz := s.heap.size)
  generalize hAe : va_A [(h, .inr (7, [.ref sc, .ref wo, .ref hi, .ref te])), (wo, .inr (6, [.ref st, .int 0, .ref fl, .ref fn, .ref li, .int 0, .ref rc, .int 0, .int 0]))] s.heap.size = A at hns hZ hD ⊢
  have hA : ∀ q : Nat, s.heap.size ≤ q → A q := fun q h => by rw [← hAe]; exact Or.inr h
  have hS : va_S A s.heap s.heap [] := va_S.rf
  have hl := lv_entry ([.ref h, .int oo, .int b, .int c3]) (n := 5) (Nat.le_of_ble_eq_true rfl)
  rw [lg_entry_eq]
  generalize (lg_sl ([.ref h, .int oo, .int b, .int c3]) ++ List.replicate (5 - (lg_sl ([.ref h, .int oo, .int b, .int c3])).length) Slot.unset).toArray = ls at hl ⊢
  have hl : lv_has ls 5 [(0, .ref h), (1, .int oo), (2, .int b), (3, .int c3)] := hl
  refine lv_iload_n hx hb d_TM_object_0 rfl (lv_at hl 1 rfl) ?_
  refine lv_iconst (v := (-1)) hx hb d_TM_object_1 (by decide) ?_
  refine lv_icmp_ne hx hb d_TM_object_2 (tgt := 9) (by decide) (fun _ => ?_) (fun hz => absurd hz ho)
  refine lv_iload_n hx hb d_TM_object_9 rfl (lv_at hl 2 rfl) ?_
  refine lv_iconst (v := (-1)) hx hb d_TM_object_10 (by decide) ?_
  refine lv_icmp_ne hx hb d_TM_object_11 (tgt := 18) (by decide) (fun hc1 => ?_) (fun hc1 => ?_)
  · refine lv_iload_n hx hb d_TM_object_18 rfl (lv_at hl 3 rfl) ?_
    refine lv_iconst (v := (-1)) hx hb d_TM_object_19 (by decide) ?_
    refine lv_icmp_ne hx hb d_TM_object_20 (tgt := 27) (by decide) (fun hc2 => ?_) (fun hc2 => ?_)
    · refine lv_iconst (v := 3) hx hb d_TM_object_27 (by decide) ?_
      refine lv_istore (lv' := [(4, .int 3), (0, .ref h), (1, .int oo), (2, .int b), (3, .int c3)]) hx hb d_TM_object_28 hl (by decide) rfl (fun ls hl => ?_)
      refine lv_iload hx hb d_TM_object_30 (lv_at hl 0 rfl) ?_
      refine lv_if_le hx hb d_TM_object_32 (tgt := 46) (by decide) (fun hz => absurd hz (by decide)) (fun _ => ?_)
      refine lv_aload_n hx hb d_TM_object_35 rfl (lv_at hl 1 rfl) ?_
      refine va_get (D := D) (ci := 7) (v := .ref wo) (C := "TaleMachine") (T := F_TM) (N := 4) hx hb hts in_TM hown hK hP 0 rfl rfl 1 (by decide) (hts _ k_109) (fun _ h9 => h9) rfl d_TM_object_36 ?_
      refine lv_iload_n hx hb d_TM_object_39 rfl (lv_at hl 2 rfl) ?_
      refine mv_i (va_runV (C := "TaleMachine$World") (As := [.int oo]) (rest := []) ⟨hx, hb, hml, hown, hts⟩ (c_World_isFixed l D cI cZ cJ wo st fl fn li rc 0 0 0 oo _ ) (cwV 1 hts (gInV k_182 k_132 k_133 k_106 k_130) rfl rfl rfl (by decide +kernel) ⟨Nat.le_of_ble_eq_true rfl, Nat.le_of_ble_eq_true rfl⟩) (pre_V (va_recv hK hP (q := ("TaleMachine$World", F_World, 9)) rfl (q0 := 1) rfl) (hP.sub [1] rfl) (hK.sub [0, 1, 2] rfl) (hD.sub [1] (by decide) rfl) hT) rfl rfl hl.1 rfl (lv_room (Nat.le_of_ble_eq_true rfl)) d_TM_object_40 ⟨Nat.le_of_ble_eq_true rfl, Nat.le_of_ble_eq_true rfl⟩) hP hD hS hA [1] [0] rfl rfl (by decide) (by decide) (wr := [(h, .inr (7, [.ref sc, .ref wo, .ref hi, .ref te]))]) (wn := fun _ => [(wo, .inr (6, [.ref st, .int 0, .ref fl, .ref fn, .ref li, .int 0, .ref rc, .int 0, .int 0]))]) (fun _ _ h9 => h9) (fun r3 _ H locs hp4 hP hD hS => ?_)
      have hP : va_P D cL [(h, .inr (7, [.ref sc, .ref wo, .ref hi, .ref te])), (wo, .inr (6, [.ref st, .int 0, .ref fl, .ref fn, .ref li, .int 0, .ref rc, .int 0, .int 0]))] H := hP
      have hD : va_D A [(h, .inr (7, [.ref sc, .ref wo, .ref hi, .ref te])), (wo, .inr (6, [.ref st, .int 0, .ref fl, .ref fn, .ref li, .int 0, .ref rc, .int 0, .int 0]))] := hD
      obtain rfl : r3 = 0 := hp4
      refine lv_if_eq hx hb d_TM_object_43 (tgt := 80) (by decide) (fun _ => ?_) (fun hz => absurd (by decide) hz)
      exact th_go hx hb hlt hown (by decide) (Tb_A hT hZ) (hts _ k_183) (hts _ k_184) hT (List.mem_of_getElem? (i := 0) rfl) hS hns hne (hl.1.trans hml.symm) hlocks d_TM_object_80 d_TM_object_83 d_TM_object_84 d_TM_object_86 d_TM_object_89 (Nat.le_of_ble_eq_true rfl) (Nat.le_of_ble_eq_true rfl) (Nat.le_of_ble_eq_true rfl) (Nat.le_of_ble_eq_true rfl) (Nat.le_of_ble_eq_true rfl) (Nat.le_of_ble_eq_true rfl)
    · refine lv_iconst (v := 2) hx hb d_TM_object_23 (by decide) ?_
      refine lv_goto hx hb d_TM_object_24 (tgt := 28) (by decide) ?_
      refine lv_istore (lv' := [(4, .int 2), (0, .ref h), (1, .int oo), (2, .int b), (3, .int c3)]) hx hb d_TM_object_28 hl (by decide) rfl (fun ls hl => ?_)
      refine lv_iload hx hb d_TM_object_30 (lv_at hl 0 rfl) ?_
      refine lv_if_le hx hb d_TM_object_32 (tgt := 46) (by decide) (fun hz => absurd hz (by decide)) (fun _ => ?_)
      refine lv_aload_n hx hb d_TM_object_35 rfl (lv_at hl 1 rfl) ?_
      refine va_get (D := D) (ci := 7) (v := .ref wo) (C := "TaleMachine") (T := F_TM) (N := 4) hx hb hts in_TM hown hK hP 0 rfl rfl 1 (by decide) (hts _ k_109) (fun _ h9 => h9) rfl d_TM_object_36 ?_
      refine lv_iload_n hx hb d_TM_object_39 rfl (lv_at hl 2 rfl) ?_
      refine mv_i (va_runV (C := "TaleMachine$World") (As := [.int oo]) (rest := []) ⟨hx, hb, hml, hown, hts⟩ (c_World_isFixed l D cI cZ cJ wo st fl fn li rc 0 0 0 oo _ ) (cwV 1 hts (gInV k_182 k_132 k_133 k_106 k_130) rfl rfl rfl (by decide +kernel) ⟨Nat.le_of_ble_eq_true rfl, Nat.le_of_ble_eq_true rfl⟩) (pre_V (va_recv hK hP (q := ("TaleMachine$World", F_World, 9)) rfl (q0 := 1) rfl) (hP.sub [1] rfl) (hK.sub [0, 1, 2] rfl) (hD.sub [1] (by decide) rfl) hT) rfl rfl hl.1 rfl (lv_room (Nat.le_of_ble_eq_true rfl)) d_TM_object_40 ⟨Nat.le_of_ble_eq_true rfl, Nat.le_of_ble_eq_true rfl⟩) hP hD hS hA [1] [0] rfl rfl (by decide) (by decide) (wr := [(h, .inr (7, [.ref sc, .ref wo, .ref hi, .ref te]))]) (wn := fun _ => [(wo, .inr (6, [.ref st, .int 0, .ref fl, .ref fn, .ref li, .int 0, .ref rc, .int 0, .int 0]))]) (fun _ _ h9 => h9) (fun r5 _ H locs hp6 hP hD hS => ?_)
      have hP : va_P D cL [(h, .inr (7, [.ref sc, .ref wo, .ref hi, .ref te])), (wo, .inr (6, [.ref st, .int 0, .ref fl, .ref fn, .ref li, .int 0, .ref rc, .int 0, .int 0]))] H := hP
      have hD : va_D A [(h, .inr (7, [.ref sc, .ref wo, .ref hi, .ref te])), (wo, .inr (6, [.ref st, .int 0, .ref fl, .ref fn, .ref li, .int 0, .ref rc, .int 0, .int 0]))] := hD
      obtain rfl : r5 = 0 := hp6
      refine lv_if_eq hx hb d_TM_object_43 (tgt := 80) (by decide) (fun _ => ?_) (fun hz => absurd (by decide) hz)
      exact th_go hx hb hlt hown (by decide) (Tb_A hT hZ) (hts _ k_183) (hts _ k_184) hT (List.mem_of_getElem? (i := 0) rfl) hS hns hne (hl.1.trans hml.symm) hlocks d_TM_object_80 d_TM_object_83 d_TM_object_84 d_TM_object_86 d_TM_object_89 (Nat.le_of_ble_eq_true rfl) (Nat.le_of_ble_eq_true rfl) (Nat.le_of_ble_eq_true rfl) (Nat.le_of_ble_eq_true rfl) (Nat.le_of_ble_eq_true rfl) (Nat.le_of_ble_eq_true rfl)
  · refine lv_iconst (v := 1) hx hb d_TM_object_14 (by decide) ?_
    refine lv_goto hx hb d_TM_object_15 (tgt := 28) (by decide) ?_
    refine lv_istore (lv' := [(4, .int 1), (0, .ref h), (1, .int oo), (2, .int b), (3, .int c3)]) hx hb d_TM_object_28 hl (by decide) rfl (fun ls hl => ?_)
    refine lv_iload hx hb d_TM_object_30 (lv_at hl 0 rfl) ?_
    refine lv_if_le hx hb d_TM_object_32 (tgt := 46) (by decide) (fun hz => absurd hz (by decide)) (fun _ => ?_)
    refine lv_aload_n hx hb d_TM_object_35 rfl (lv_at hl 1 rfl) ?_
    refine va_get (D := D) (ci := 7) (v := .ref wo) (C := "TaleMachine") (T := F_TM) (N := 4) hx hb hts in_TM hown hK hP 0 rfl rfl 1 (by decide) (hts _ k_109) (fun _ h9 => h9) rfl d_TM_object_36 ?_
    refine lv_iload_n hx hb d_TM_object_39 rfl (lv_at hl 2 rfl) ?_
    refine mv_i (va_runV (C := "TaleMachine$World") (As := [.int oo]) (rest := []) ⟨hx, hb, hml, hown, hts⟩ (c_World_isFixed l D cI cZ cJ wo st fl fn li rc 0 0 0 oo _ ) (cwV 1 hts (gInV k_182 k_132 k_133 k_106 k_130) rfl rfl rfl (by decide +kernel) ⟨Nat.le_of_ble_eq_true rfl, Nat.le_of_ble_eq_true rfl⟩) (pre_V (va_recv hK hP (q := ("TaleMachine$World", F_World, 9)) rfl (q0 := 1) rfl) (hP.sub [1] rfl) (hK.sub [0, 1, 2] rfl) (hD.sub [1] (by decide) rfl) hT) rfl rfl hl.1 rfl (lv_room (Nat.le_of_ble_eq_true rfl)) d_TM_object_40 ⟨Nat.le_of_ble_eq_true rfl, Nat.le_of_ble_eq_true rfl⟩) hP hD hS hA [1] [0] rfl rfl (by decide) (by decide) (wr := [(h, .inr (7, [.ref sc, .ref wo, .ref hi, .ref te]))]) (wn := fun _ => [(wo, .inr (6, [.ref st, .int 0, .ref fl, .ref fn, .ref li, .int 0, .ref rc, .int 0, .int 0]))]) (fun _ _ h9 => h9) (fun r7 _ H locs hp8 hP hD hS => ?_)
    have hP : va_P D cL [(h, .inr (7, [.ref sc, .ref wo, .ref hi, .ref te])), (wo, .inr (6, [.ref st, .int 0, .ref fl, .ref fn, .ref li, .int 0, .ref rc, .int 0, .int 0]))] H := hP
    have hD : va_D A [(h, .inr (7, [.ref sc, .ref wo, .ref hi, .ref te])), (wo, .inr (6, [.ref st, .int 0, .ref fl, .ref fn, .ref li, .int 0, .ref rc, .int 0, .int 0]))] := hD
    obtain rfl : r7 = 0 := hp8
    refine lv_if_eq hx hb d_TM_object_43 (tgt := 80) (by decide) (fun _ => ?_) (fun hz => absurd (by decide) hz)
    exact th_go hx hb hlt hown (by decide) (Tb_A hT hZ) (hts _ k_183) (hts _ k_184) hT (List.mem_of_getElem? (i := 0) rfl) hS hns hne (hl.1.trans hml.symm) hlocks d_TM_object_80 d_TM_object_83 d_TM_object_84 d_TM_object_86 d_TM_object_89 (Nat.le_of_ble_eq_true rfl) (Nat.le_of_ble_eq_true rfl) (Nat.le_of_ble_eq_true rfl) (Nat.le_of_ble_eq_true rfl) (Nat.le_of_ble_eq_true rfl) (Nat.le_of_ble_eq_true rfl)

set_option maxHeartbeats 4000000 in
set_option maxRecDepth 100000 in
theorem x_TM_property (l : Launch) (hlt : l.stackTraces = false) (D : va_G) (cI cZ cJ : ClassId) (h sc by_ wo st fl fn li rc kd it pa hi pt sv iz te fr va sa re vk vi sk si rk ri : Nat) (oo pp kd2 vl : Int32) (sz : Nat)  : vt_Met l y_TM_property (.code y_TM_property prog_1_method_4_code 5 none :: AW) ({ frames := 6, cells := 1, slots := 6, locals := 100 }) (va_Pc [.ref h, .int oo, .int pp, .int kd2, .int vl] (preT_ D [(h, .inr (7, [.ref sc, .ref wo, .ref hi, .ref te])), (wo, .inr (6, [.ref st, .int 0, .ref fl, .ref fn, .ref li, .int 0, .ref rc, .int 0, .int 0])), (st, .inr (3, [.ref kd, .ref it, .ref pa])), (pa, .inl (cI, 16, .inl (fun _ => -1)))] [(cI, .int), (cZ, .boolean), (cJ, .long)] sz)) (vt_Q "java/util/NoSuchElementException" (va_A [(h, .inr (7, [.ref sc, .ref wo, .ref hi, .ref te])), (wo, .inr (6, [.ref st, .int 0, .ref fl, .ref fn, .ref li, .int 0, .ref rc, .int 0, .int 0])), (st, .inr (3, [.ref kd, .ref it, .ref pa])), (pa, .inl (cI, 16, .inl (fun _ => -1)))] sz)) 1 6 (va_A [(h, .inr (7, [.ref sc, .ref wo, .ref hi, .ref te])), (wo, .inr (6, [.ref st, .int 0, .ref fl, .ref fn, .ref li, .int 0, .ref rc, .int 0, .int 0])), (st, .inr (3, [.ref kd, .ref it, .ref pa])), (pa, .inl (cI, 16, .inl (fun _ => -1)))] sz) := by
  refine vt_ofW (cc := prog_1_method_4_code) (maxL := 5) (ret := none) (by decide) rfl ?_
  intro p e s m args below meth c s₁ B hml hne hv
  obtain ⟨rfl, ⟨rfl, hP, hK, hD0, hT⟩, hZ⟩ := hv
  have hx := B.exec
  have hb := B.bytes
  have hr := B.returns
  have hts0 := atoms_spec (ws := .code y_TM_property prog_1_method_4_code 5 none :: AW) B.pre
  have hts : ∀ w ∈ AW, w.before [.ref h, .int oo, .int pp, .int kd2, .int vl].toArray s = true := fun w h => hts0 w (List.mem_cons_of_mem _ h)
  have hown : s.vm.findClass "TaleMachine" = some m.cls := findClass_of_methodNamed B.named
  have hlocks := B.notSynchronized
  have hns := vt_plain hP
  have hD := hD0.self (sz := s.heap.size)
  generalize hAe : va_A [(h, .inr (7, [.ref sc, .ref wo, .ref hi, .ref te])), (wo, .inr (6, [.ref st, .int 0, .ref fl, .ref fn, .ref li, .int 0, .ref rc, .int 0, .int 0])), (st, .inr (3, [.ref kd, .ref it, .ref pa])), (pa, .inl (cI, 16, .inl (fun _ => -1)))] s.heap.size = A at hns hZ hD ⊢
  have hA : ∀ q : Nat, s.heap.size ≤ q → A q := fun q h => by rw [← hAe]; exact Or.inr h
  have hS : va_S A s.heap s.heap [] := va_S.rf
  have hl := lv_entry ([.ref h, .int oo, .int pp, .int kd2, .int vl]) (n := 5) (Nat.le_of_ble_eq_true rfl)
  rw [lg_entry_eq]
  generalize (lg_sl ([.ref h, .int oo, .int pp, .int kd2, .int vl]) ++ List.replicate (5 - (lg_sl ([.ref h, .int oo, .int pp, .int kd2, .int vl])).length) Slot.unset).toArray = ls at hl ⊢
  have hl : lv_has ls 5 [(0, .ref h), (1, .int oo), (2, .int pp), (3, .int kd2), (4, .int vl)] := hl
  refine lv_aload_n hx hb d_TM_property_0 rfl (lv_at hl 0 rfl) ?_
  refine va_get (D := D) (ci := 7) (v := .ref wo) (C := "TaleMachine") (T := F_TM) (N := 4) hx hb hts in_TM hown hK hP 0 rfl rfl 1 (by decide) (hts _ k_109) (fun _ h9 => h9) rfl d_TM_property_1 ?_
  refine lv_iload_n hx hb d_TM_property_4 rfl (lv_at hl 1 rfl) ?_
  refine mv_i (va_runV (C := "TaleMachine$World") (As := [.int oo]) (rest := []) ⟨hx, hb, hml, hown, hts⟩ (c_World_isThere l D cI cZ cJ wo st fl fn li rc kd it pa oo _ ) (cwV 1 hts (gInV k_185 k_139 k_140 k_106 k_137) rfl rfl rfl (by decide +kernel) ⟨Nat.le_of_ble_eq_true rfl, Nat.le_of_ble_eq_true rfl⟩) (pre_V (va_recv hK hP (q := ("TaleMachine$World", F_World, 9)) rfl (q0 := 1) rfl) (hP.sub [1, 2, 3] rfl) (hK.sub [0, 1, 2] rfl) (hD.sub [1, 2, 3] (by decide) rfl) hT) rfl rfl hl.1 rfl (lv_room (Nat.le_of_ble_eq_true rfl)) d_TM_property_5 ⟨Nat.le_of_ble_eq_true rfl, Nat.le_of_ble_eq_true rfl⟩) hP hD hS hA [1, 2, 3] [0] rfl rfl (by decide) (by decide) (wr := [(h, .inr (7, [.ref sc, .ref wo, .ref hi, .ref te]))]) (wn := fun _ => [(wo, .inr (6, [.ref st, .int 0, .ref fl, .ref fn, .ref li, .int 0, .ref rc, .int 0, .int 0])), (st, .inr (3, [.ref kd, .ref it, .ref pa])), (pa, .inl (cI, 16, .inl (fun _ => -1)))]) (fun _ _ h9 => h9) (fun r1 _ H locs hp2 hP hD hS => ?_)
  have hP : va_P D cL [(h, .inr (7, [.ref sc, .ref wo, .ref hi, .ref te])), (wo, .inr (6, [.ref st, .int 0, .ref fl, .ref fn, .ref li, .int 0, .ref rc, .int 0, .int 0])), (st, .inr (3, [.ref kd, .ref it, .ref pa])), (pa, .inl (cI, 16, .inl (fun _ => -1)))] H := hP
  have hD : va_D A [(h, .inr (7, [.ref sc, .ref wo, .ref hi, .ref te])), (wo, .inr (6, [.ref st, .int 0, .ref fl, .ref fn, .ref li, .int 0, .ref rc, .int 0, .int 0])), (st, .inr (3, [.ref kd, .ref it, .ref pa])), (pa, .inl (cI, 16, .inl (fun _ => -1)))] := hD
  obtain rfl : r1 = 0 := hp2
  refine lv_if_ne hx hb d_TM_property_8 (tgt := 21) (by decide) (fun hz => absurd (by decide) hz) (fun _ => ?_)
  exact th_goN hx hb hlt hown (Tb_N hT hZ) (hts _ k_186) (hts _ k_187) hT (List.mem_of_getElem? (i := 1) rfl) hS hns hne (hl.1.trans hml.symm) hlocks d_TM_property_11 d_TM_property_14 d_TM_property_15 d_TM_property_17 d_TM_property_20 (Nat.le_of_ble_eq_true rfl) (Nat.le_of_ble_eq_true rfl) (Nat.le_of_ble_eq_true rfl) (Nat.le_of_ble_eq_true rfl) (Nat.le_of_ble_eq_true rfl) (Nat.le_of_ble_eq_true rfl)

set_option maxHeartbeats 4000000 in
set_option maxRecDepth 100000 in
theorem x_TM_begin (l : Launch) (hlt : l.stackTraces = false) (D : va_G) (cI cZ cJ : ClassId) (h sc by_ wo st fl fn li rc kd it pa hi pt sv iz te fr va sa re vk vi sk si rk ri : Nat) (oo pp : Int32) (sz : Nat)  : vt_Met l y_TM_begin (.code y_TM_begin prog_1_method_5_code 4 none :: AW) ({ frames := 6, cells := 1, slots := 6, locals := 100 }) (va_Pc [.ref h, .int oo, .int pp] (preT_ D [(h, .inr (7, [.ref sc, .ref wo, .ref hi, .ref te])), (wo, .inr (6, [.ref st, .int 0, .ref fl, .ref fn, .ref li, .int 0, .ref rc, .int 0, .int 0])), (st, .inr (3, [.ref kd, .ref it, .ref pa])), (pa, .inl (cI, 16, .inl (fun _ => -1)))] [(cI, .int), (cZ, .boolean), (cJ, .long)] sz)) (vt_Q "java/util/NoSuchElementException" (va_A [(h, .inr (7, [.ref sc, .ref wo, .ref hi, .ref te])), (wo, .inr (6, [.ref st, .int 0, .ref fl, .ref fn, .ref li, .int 0, .ref rc, .int 0, .int 0])), (st, .inr (3, [.ref kd, .ref it, .ref pa])), (pa, .inl (cI, 16, .inl (fun _ => -1)))] sz)) 1 6 (va_A [(h, .inr (7, [.ref sc, .ref wo, .ref hi, .ref te])), (wo, .inr (6, [.ref st, .int 0, .ref fl, .ref fn, .ref li, .int 0, .ref rc, .int 0, .int 0])), (st, .inr (3, [.ref kd, .ref it, .ref pa])), (pa, .inl (cI, 16, .inl (fun _ => -1)))] sz) := by
  refine vt_ofW (cc := prog_1_method_5_code) (maxL := 4) (ret := none) (by decide) rfl ?_
  intro p e s m args below meth c s₁ B hml hne hv
  obtain ⟨rfl, ⟨rfl, hP, hK, hD0, hT⟩, hZ⟩ := hv
  have hx := B.exec
  have hb := B.bytes
  have hr := B.returns
  have hts0 := atoms_spec (ws := .code y_TM_begin prog_1_method_5_code 4 none :: AW) B.pre
  have hts : ∀ w ∈ AW, w.before [.ref h, .int oo, .int pp].toArray s = true := fun w h => hts0 w (List.mem_cons_of_mem _ h)
  have hown : s.vm.findClass "TaleMachine" = some m.cls := findClass_of_methodNamed B.named
  have hlocks := B.notSynchronized
  have hns := vt_plain hP
  have hD := hD0.self (sz := s.heap.size)
  generalize hAe : va_A [(h, .inr (7, [.ref sc, .ref wo, .ref hi, .ref te])), (wo, .inr (6, [.ref st, .int 0, .ref fl, .ref fn, .ref li, .int 0, .ref rc, .int 0, .int 0])), (st, .inr (3, [.ref kd, .ref it, .ref pa])), (pa, .inl (cI, 16, .inl (fun _ => -1)))] s.heap.size = A at hns hZ hD ⊢
  have hA : ∀ q : Nat, s.heap.size ≤ q → A q := fun q h => by rw [← hAe]; exact Or.inr h
  have hS : va_S A s.heap s.heap [] := va_S.rf
  have hl := lv_entry ([.ref h, .int oo, .int pp]) (n := 4) (Nat.le_of_ble_eq_true rfl)
  rw [lg_entry_eq]
  generalize (lg_sl ([.ref h, .int oo, .int pp]) ++ List.replicate (4 - (lg_sl ([.ref h, .int oo, .int pp])).length) Slot.unset).toArray = ls at hl ⊢
  have hl : lv_has ls 4 [(0, .ref h), (1, .int oo), (2, .int pp)] := hl
  refine lv_aload_n hx hb d_TM_begin_0 rfl (lv_at hl 0 rfl) ?_
  refine va_get (D := D) (ci := 7) (v := .ref wo) (C := "TaleMachine") (T := F_TM) (N := 4) hx hb hts in_TM hown hK hP 0 rfl rfl 1 (by decide) (hts _ k_109) (fun _ h9 => h9) rfl d_TM_begin_1 ?_
  refine lv_iload_n hx hb d_TM_begin_4 rfl (lv_at hl 1 rfl) ?_
  refine mv_i (va_runV (C := "TaleMachine$World") (As := [.int oo]) (rest := []) ⟨hx, hb, hml, hown, hts⟩ (c_World_isThere l D cI cZ cJ wo st fl fn li rc kd it pa oo _ ) (cwV 1 hts (gInV k_185 k_139 k_140 k_106 k_137) rfl rfl rfl (by decide +kernel) ⟨Nat.le_of_ble_eq_true rfl, Nat.le_of_ble_eq_true rfl⟩) (pre_V (va_recv hK hP (q := ("TaleMachine$World", F_World, 9)) rfl (q0 := 1) rfl) (hP.sub [1, 2, 3] rfl) (hK.sub [0, 1, 2] rfl) (hD.sub [1, 2, 3] (by decide) rfl) hT) rfl rfl hl.1 rfl (lv_room (Nat.le_of_ble_eq_true rfl)) d_TM_begin_5 ⟨Nat.le_of_ble_eq_true rfl, Nat.le_of_ble_eq_true rfl⟩) hP hD hS hA [1, 2, 3] [0] rfl rfl (by decide) (by decide) (wr := [(h, .inr (7, [.ref sc, .ref wo, .ref hi, .ref te]))]) (wn := fun _ => [(wo, .inr (6, [.ref st, .int 0, .ref fl, .ref fn, .ref li, .int 0, .ref rc, .int 0, .int 0])), (st, .inr (3, [.ref kd, .ref it, .ref pa])), (pa, .inl (cI, 16, .inl (fun _ => -1)))]) (fun _ _ h9 => h9) (fun r1 _ H locs hp2 hP hD hS => ?_)
  have hP : va_P D cL [(h, .inr (7, [.ref sc, .ref wo, .ref hi, .ref te])), (wo, .inr (6, [.ref st, .int 0, .ref fl, .ref fn, .ref li, .int 0, .ref rc, .int 0, .int 0])), (st, .inr (3, [.ref kd, .ref it, .ref pa])), (pa, .inl (cI, 16, .inl (fun _ => -1)))] H := hP
  have hD : va_D A [(h, .inr (7, [.ref sc, .ref wo, .ref hi, .ref te])), (wo, .inr (6, [.ref st, .int 0, .ref fl, .ref fn, .ref li, .int 0, .ref rc, .int 0, .int 0])), (st, .inr (3, [.ref kd, .ref it, .ref pa])), (pa, .inl (cI, 16, .inl (fun _ => -1)))] := hD
  obtain rfl : r1 = 0 := hp2
  refine lv_if_ne hx hb d_TM_begin_8 (tgt := 21) (by decide) (fun hz => absurd (by decide) hz) (fun _ => ?_)
  exact th_goN hx hb hlt hown (Tb_N hT hZ) (hts _ k_186) (hts _ k_187) hT (List.mem_of_getElem? (i := 1) rfl) hS hns hne (hl.1.trans hml.symm) hlocks d_TM_begin_11 d_TM_begin_14 d_TM_begin_15 d_TM_begin_17 d_TM_begin_20 (Nat.le_of_ble_eq_true rfl) (Nat.le_of_ble_eq_true rfl) (Nat.le_of_ble_eq_true rfl) (Nat.le_of_ble_eq_true rfl) (Nat.le_of_ble_eq_true rfl) (Nat.le_of_ble_eq_true rfl)

set_option maxHeartbeats 4000000 in
set_option maxRecDepth 100000 in
theorem x_TM_has (l : Launch) (hlt : l.stackTraces = false) (D : va_G) (cI cZ cJ : ClassId) (h sc by_ wo st fl fn li rc kd it pa hi pt sv iz te fr va sa re vk vi sk si rk ri : Nat) (oo pp wh : Int32) (sz : Nat)  : vt_Met l y_TM_has (.code y_TM_has prog_1_method_12_code 5 (some .int) :: AW) ({ frames := 6, cells := 1, slots := 6, locals := 100 }) (va_Pc [.ref h, .int oo, .int pp, .int wh] (preT_ D [(h, .inr (7, [.ref sc, .ref wo, .ref hi, .ref te])), (wo, .inr (6, [.ref st, .int 0, .ref fl, .ref fn, .ref li, .int 0, .ref rc, .int 0, .int 0])), (st, .inr (3, [.ref kd, .ref it, .ref pa])), (pa, .inl (cI, 16, .inl (fun _ => -1)))] [(cI, .int), (cZ, .boolean), (cJ, .long)] sz)) (vt_Q "java/util/NoSuchElementException" (va_A [(h, .inr (7, [.ref sc, .ref wo, .ref hi, .ref te])), (wo, .inr (6, [.ref st, .int 0, .ref fl, .ref fn, .ref li, .int 0, .ref rc, .int 0, .int 0])), (st, .inr (3, [.ref kd, .ref it, .ref pa])), (pa, .inl (cI, 16, .inl (fun _ => -1)))] sz)) 1 6 (va_A [(h, .inr (7, [.ref sc, .ref wo, .ref hi, .ref te])), (wo, .inr (6, [.ref st, .int 0, .ref fl, .ref fn, .ref li, .int 0, .ref rc, .int 0, .int 0])), (st, .inr (3, [.ref kd, .ref it, .ref pa])), (pa, .inl (cI, 16, .inl (fun _ => -1)))] sz) := by
  refine vt_ofW (cc := prog_1_method_12_code) (maxL := 5) (ret := (some .int)) (by decide) rfl ?_
  intro p e s m args below meth c s₁ B hml hne hv
  obtain ⟨rfl, ⟨rfl, hP, hK, hD0, hT⟩, hZ⟩ := hv
  have hx := B.exec
  have hb := B.bytes
  have hr := B.returns
  have hts0 := atoms_spec (ws := .code y_TM_has prog_1_method_12_code 5 (some .int) :: AW) B.pre
  have hts : ∀ w ∈ AW, w.before [.ref h, .int oo, .int pp, .int wh].toArray s = true := fun w h => hts0 w (List.mem_cons_of_mem _ h)
  have hown : s.vm.findClass "TaleMachine" = some m.cls := findClass_of_methodNamed B.named
  have hlocks := B.notSynchronized
  have hns := vt_plain hP
  have hD := hD0.self (sz := s.heap.size)
  generalize hAe : va_A [(h, .inr (7, [.ref sc, .ref wo, .ref hi, .ref te])), (wo, .inr (6, [.ref st, .int 0, .ref fl, .ref fn, .ref li, .int 0, .ref rc, .int 0, .int 0])), (st, .inr (3, [.ref kd, .ref it, .ref pa])), (pa, .inl (cI, 16, .inl (fun _ => -1)))] s.heap.size = A at hns hZ hD ⊢
  have hA : ∀ q : Nat, s.heap.size ≤ q → A q := fun q h => by rw [← hAe]; exact Or.inr h
  have hS : va_S A s.heap s.heap [] := va_S.rf
  have hl := lv_entry ([.ref h, .int oo, .int pp, .int wh]) (n := 5) (Nat.le_of_ble_eq_true rfl)
  rw [lg_entry_eq]
  generalize (lg_sl ([.ref h, .int oo, .int pp, .int wh]) ++ List.replicate (5 - (lg_sl ([.ref h, .int oo, .int pp, .int wh])).length) Slot.unset).toArray = ls at hl ⊢
  have hl : lv_has ls 5 [(0, .ref h), (1, .int oo), (2, .int pp), (3, .int wh)] := hl
  refine lv_aload_n hx hb d_TM_has_0 rfl (lv_at hl 0 rfl) ?_
  refine va_get (D := D) (ci := 7) (v := .ref wo) (C := "TaleMachine") (T := F_TM) (N := 4) hx hb hts in_TM hown hK hP 0 rfl rfl 1 (by decide) (hts _ k_109) (fun _ h9 => h9) rfl d_TM_has_1 ?_
  refine lv_iload_n hx hb d_TM_has_4 rfl (lv_at hl 1 rfl) ?_
  refine mv_i (va_runV (C := "TaleMachine$World") (As := [.int oo]) (rest := []) ⟨hx, hb, hml, hown, hts⟩ (c_World_isThere l D cI cZ cJ wo st fl fn li rc kd it pa oo _ ) (cwV 1 hts (gInV k_185 k_139 k_140 k_106 k_137) rfl rfl rfl (by decide +kernel) ⟨Nat.le_of_ble_eq_true rfl, Nat.le_of_ble_eq_true rfl⟩) (pre_V (va_recv hK hP (q := ("TaleMachine$World", F_World, 9)) rfl (q0 := 1) rfl) (hP.sub [1, 2, 3] rfl) (hK.sub [0, 1, 2] rfl) (hD.sub [1, 2, 3] (by decide) rfl) hT) rfl rfl hl.1 rfl (lv_room (Nat.le_of_ble_eq_true rfl)) d_TM_has_5 ⟨Nat.le_of_ble_eq_true rfl, Nat.le_of_ble_eq_true rfl⟩) hP hD hS hA [1, 2, 3] [0] rfl rfl (by decide) (by decide) (wr := [(h, .inr (7, [.ref sc, .ref wo, .ref hi, .ref te]))]) (wn := fun _ => [(wo, .inr (6, [.ref st, .int 0, .ref fl, .ref fn, .ref li, .int 0, .ref rc, .int 0, .int 0])), (st, .inr (3, [.ref kd, .ref it, .ref pa])), (pa, .inl (cI, 16, .inl (fun _ => -1)))]) (fun _ _ h9 => h9) (fun r1 _ H locs hp2 hP hD hS => ?_)
  have hP : va_P D cL [(h, .inr (7, [.ref sc, .ref wo, .ref hi, .ref te])), (wo, .inr (6, [.ref st, .int 0, .ref fl, .ref fn, .ref li, .int 0, .ref rc, .int 0, .int 0])), (st, .inr (3, [.ref kd, .ref it, .ref pa])), (pa, .inl (cI, 16, .inl (fun _ => -1)))] H := hP
  have hD : va_D A [(h, .inr (7, [.ref sc, .ref wo, .ref hi, .ref te])), (wo, .inr (6, [.ref st, .int 0, .ref fl, .ref fn, .ref li, .int 0, .ref rc, .int 0, .int 0])), (st, .inr (3, [.ref kd, .ref it, .ref pa])), (pa, .inl (cI, 16, .inl (fun _ => -1)))] := hD
  obtain rfl : r1 = 0 := hp2
  refine lv_if_eq hx hb d_TM_has_8 (tgt := 30) (by decide) (fun _ => ?_) (fun hz => absurd (by decide) hz)
  refine lv_iconst (v := (-1)) hx hb d_TM_has_30 (by decide) ?_
  refine lv_istore (lv' := [(4, .int (-1)), (0, .ref h), (1, .int oo), (2, .int pp), (3, .int wh)]) hx hb d_TM_has_31 hl (by decide) rfl (fun ls hl => ?_)
  refine lv_iload hx hb d_TM_has_33 (lv_at hl 0 rfl) ?_
  refine lv_iconst (v := (-1)) hx hb d_TM_has_35 (by decide) ?_
  refine lv_icmp_eq hx hb d_TM_has_36 (tgt := 48) (by decide) (fun _ => ?_) (fun hz => absurd (by decide) hz)
  exact th_goN hx hb hlt hown (Tb_N hT hZ) (hts _ k_186) (hts _ k_187) hT (List.mem_of_getElem? (i := 5) rfl) hS hns hne (hl.1.trans hml.symm) hlocks d_TM_has_48 d_TM_has_51 d_TM_has_52 d_TM_has_54 d_TM_has_57 (Nat.le_of_ble_eq_true rfl) (Nat.le_of_ble_eq_true rfl) (Nat.le_of_ble_eq_true rfl) (Nat.le_of_ble_eq_true rfl) (Nat.le_of_ble_eq_true rfl) (Nat.le_of_ble_eq_true rfl)

set_option maxHeartbeats 4000000 in
set_option maxRecDepth 100000 in
theorem x_TM_part (l : Launch) (hlt : l.stackTraces = false) (D : va_G) (cI cZ cJ : ClassId) (h vk vi : Nat) (kk_ wh : Int32) (sz : Nat)  : vt_Met l y_TM_part (.code y_TM_part prog_1_method_15_code 3 (some .int) :: AW) ({ frames := 6, cells := 1, slots := 6, locals := 100 }) (va_Pc [.ref h, .int kk_, .int wh] (preT_ D [(h, .inr (5, [.ref vk, .ref vi, .int 0]))] [(cI, .int), (cZ, .boolean), (cJ, .long)] sz)) (vt_Q "java/util/NoSuchElementException" (va_A [(h, .inr (5, [.ref vk, .ref vi, .int 0]))] sz)) 1 6 (va_A [(h, .inr (5, [.ref vk, .ref vi, .int 0]))] sz) := by
  refine vt_ofW (cc := prog_1_method_15_code) (maxL := 3) (ret := (some .int)) (by decide) rfl ?_
  intro p e s m args below meth c s₁ B hml hne hv
  obtain ⟨rfl, ⟨rfl, hP, hK, hD0, hT⟩, hZ⟩ := hv
  have hx := B.exec
  have hb := B.bytes
  have hr := B.returns
  have hts0 := atoms_spec (ws := .code y_TM_part prog_1_method_15_code 3 (some .int) :: AW) B.pre
  have hts : ∀ w ∈ AW, w.before [.ref h, .int kk_, .int wh].toArray s = true := fun w h => hts0 w (List.mem_cons_of_mem _ h)
  have hown : s.vm.findClass "TaleMachine" = some m.cls := findClass_of_methodNamed B.named
  have hlocks := B.notSynchronized
  have hns := vt_plain hP
  have hD := hD0.self (sz := s.heap.size)
  generalize hAe : va_A [(h, .inr (5, [.ref vk, .ref vi, .int 0]))] s.heap.size = A at hns hZ hD ⊢
  have hA : ∀ q : Nat, s.heap.size ≤ q → A q := fun q h => by rw [← hAe]; exact Or.inr h
  have hS : va_S A s.heap s.heap [] := va_S.rf
  have hl := lv_entry ([.ref h, .int kk_, .int wh]) (n := 3) (Nat.le_of_ble_eq_true rfl)
  rw [lg_entry_eq]
  generalize (lg_sl ([.ref h, .int kk_, .int wh]) ++ List.replicate (3 - (lg_sl ([.ref h, .int kk_, .int wh])).length) Slot.unset).toArray = ls at hl ⊢
  have hl : lv_has ls 3 [(0, .ref h), (1, .int kk_), (2, .int wh)] := hl
  refine lv_iload_n hx hb d_TM_part_0 rfl (lv_at hl 1 rfl) ?_
  refine lv_if_lt hx hb d_TM_part_1 (tgt := 21) (by decide) (fun hc1 => ?_) (fun hc1 => ?_)
  · exact th_goN hx hb hlt hown (Tb_N hT hZ) (hts _ k_186) (hts _ k_187) hT (List.mem_of_getElem? (i := 2) rfl) hS hns hne (hl.1.trans hml.symm) hlocks d_TM_part_21 d_TM_part_24 d_TM_part_25 d_TM_part_27 d_TM_part_30 (Nat.le_of_ble_eq_true rfl) (Nat.le_of_ble_eq_true rfl) (Nat.le_of_ble_eq_true rfl) (Nat.le_of_ble_eq_true rfl) (Nat.le_of_ble_eq_true rfl) (Nat.le_of_ble_eq_true rfl)
  · refine lv_iload_n hx hb d_TM_part_4 rfl (lv_at hl 1 rfl) ?_
    refine lv_aload_n hx hb d_TM_part_5 rfl (lv_at hl 0 rfl) ?_
    refine va_get (D := D) (ci := 5) (v := .int 0) (C := "TaleMachine$Values") (T := F_Values) (N := 3) hx hb hts in_Values hown hK hP 0 rfl rfl 2 (by decide) (hts _ k_181) (fun _ h9 => h9) rfl d_TM_part_6 ?_
    refine lv_icmp_ge hx hb d_TM_part_9 (tgt := 21) (by decide) (fun _ => ?_) (fun hz => absurd (Int32.not_lt.mp hc1) hz)
    exact th_goN hx hb hlt hown (Tb_N hT hZ) (hts _ k_186) (hts _ k_187) hT (List.mem_of_getElem? (i := 2) rfl) hS hns hne (hl.1.trans hml.symm) hlocks d_TM_part_21 d_TM_part_24 d_TM_part_25 d_TM_part_27 d_TM_part_30 (Nat.le_of_ble_eq_true rfl) (Nat.le_of_ble_eq_true rfl) (Nat.le_of_ble_eq_true rfl) (Nat.le_of_ble_eq_true rfl) (Nat.le_of_ble_eq_true rfl) (Nat.le_of_ble_eq_true rfl)

set_option maxHeartbeats 4000000 in
set_option maxRecDepth 100000 in
theorem x_TM_stack (l : Launch) (hlt : l.stackTraces = false) (D : va_G) (cI cZ cJ : ClassId) (h sc by_ wo st fl fn li rc kd it pa hi pt sv iz te fr va sa re vk vi sk si rk ri : Nat) (kk_ wh : Int32) (sz : Nat)  : vt_Met l y_TM_stack (.code y_TM_stack prog_1_method_9_code 3 (some .int) :: AW) ({ frames := 7, cells := 1, slots := 6, locals := 122 }) (va_Pc [.ref h, .int kk_, .int wh] (preT_ D [(h, .inr (7, [.ref sc, .ref wo, .ref hi, .ref te])), (te, .inr (4, [.ref sc, .ref wo, .ref hi, .ref fr, .ref va, .ref sa, .ref re, .int 0, .int (-1)])), (va, .inr (5, [.ref vk, .ref vi, .int 0]))] [(cI, .int), (cZ, .boolean), (cJ, .long)] sz)) (vt_Q "java/util/NoSuchElementException" (va_A [(h, .inr (7, [.ref sc, .ref wo, .ref hi, .ref te])), (te, .inr (4, [.ref sc, .ref wo, .ref hi, .ref fr, .ref va, .ref sa, .ref re, .int 0, .int (-1)])), (va, .inr (5, [.ref vk, .ref vi, .int 0]))] sz)) 1 6 (va_A [(h, .inr (7, [.ref sc, .ref wo, .ref hi, .ref te])), (te, .inr (4, [.ref sc, .ref wo, .ref hi, .ref fr, .ref va, .ref sa, .ref re, .int 0, .int (-1)])), (va, .inr (5, [.ref vk, .ref vi, .int 0]))] sz) := by
  refine vt_ofW (cc := prog_1_method_9_code) (maxL := 3) (ret := (some .int)) (by decide) rfl ?_
  intro p e s m args below meth c s₁ B hml hne hv
  obtain ⟨rfl, ⟨rfl, hP, hK, hD0, hT⟩, hZ⟩ := hv
  have hx := B.exec
  have hb := B.bytes
  have hr := B.returns
  have hts0 := atoms_spec (ws := .code y_TM_stack prog_1_method_9_code 3 (some .int) :: AW) B.pre
  have hts : ∀ w ∈ AW, w.before [.ref h, .int kk_, .int wh].toArray s = true := fun w h => hts0 w (List.mem_cons_of_mem _ h)
  have hown : s.vm.findClass "TaleMachine" = some m.cls := findClass_of_methodNamed B.named
  have hlocks := B.notSynchronized
  have hns := vt_plain hP
  have hD := hD0.self (sz := s.heap.size)
  generalize hAe : va_A [(h, .inr (7, [.ref sc, .ref wo, .ref hi, .ref te])), (te, .inr (4, [.ref sc, .ref wo, .ref hi, .ref fr, .ref va, .ref sa, .ref re, .int 0, .int (-1)])), (va, .inr (5, [.ref vk, .ref vi, .int 0]))] s.heap.size = A at hns hZ hD ⊢
  have hA : ∀ q : Nat, s.heap.size ≤ q → A q := fun q h => by rw [← hAe]; exact Or.inr h
  have hS : va_S A s.heap s.heap [] := va_S.rf
  have hl := lv_entry ([.ref h, .int kk_, .int wh]) (n := 3) (Nat.le_of_ble_eq_true rfl)
  rw [lg_entry_eq]
  generalize (lg_sl ([.ref h, .int kk_, .int wh]) ++ List.replicate (3 - (lg_sl ([.ref h, .int kk_, .int wh])).length) Slot.unset).toArray = ls at hl ⊢
  have hl : lv_has ls 3 [(0, .ref h), (1, .int kk_), (2, .int wh)] := hl
  refine lv_aload_n hx hb d_TM_stack_0 rfl (lv_at hl 0 rfl) ?_
  refine va_get (D := D) (ci := 7) (v := .ref te) (C := "TaleMachine") (T := F_TM) (N := 4) hx hb hts in_TM hown hK hP 0 rfl rfl 3 (by decide) (hts _ k_123) (fun _ h9 => h9) rfl d_TM_stack_1 ?_
  refine va_get (D := D) (ci := 4) (v := .ref va) (C := "TaleMachine$Teller") (T := F_Teller) (N := 9) hx hb hts in_Teller hown hK hP 1 rfl rfl 4 (by decide) (hts _ k_188) (fun _ h9 => h9) rfl d_TM_stack_4 ?_
  refine lv_iload_n hx hb d_TM_stack_7 rfl (lv_at hl 1 rfl) ?_
  refine lv_iload_n hx hb d_TM_stack_8 rfl (lv_at hl 2 rfl) ?_
  exact vt_out (vt_runS (As := [.ref va, .int kk_, .int wh]) (rest := []) ⟨hx, hb, hml, hown, hts⟩ (x_TM_part l hlt D cI cZ cJ va vk vi kk_ wh _ ) (va_cwS 3 hts (gInS k_190 k_191 k_192 k_189) rfl rfl rfl (by decide +kernel) ⟨Nat.le_of_ble_eq_true rfl, Nat.le_of_ble_eq_true rfl⟩) (preT_S (hP.sub [2] rfl) (hK.sub [0, 1, 2] rfl) (hD.sub [2] (by decide) rfl) hT (hZ.at hS (va_free (wc := [(va, .inr (5, [.ref vk, .ref vi, .int 0]))]) hD hS hA [2] rfl))) rfl rfl hl.1 rfl (lv_room (Nat.le_of_ble_eq_true rfl)) d_TM_stack_9 ⟨Nat.le_of_ble_eq_true rfl, Nat.le_of_ble_eq_true rfl⟩) hS (fun q9 _ h9 => va_free (wc := [(va, .inr (5, [.ref vk, .ref vi, .int 0]))]) hD hS hA [2] rfl q9 h9) (va_free (wc := [(va, .inr (5, [.ref vk, .ref vi, .int 0]))]) hD hS hA [2] rfl) hne hlocks

set_option maxHeartbeats 4000000 in
set_option maxRecDepth 100000 in
theorem x_TM_said (l : Launch) (hlt : l.stackTraces = false) (D : va_G) (cI cZ cJ : ClassId) (h sc by_ wo st fl fn li rc kd it pa hi pt sv iz te fr va sa re vk vi sk si rk ri : Nat) (kk_ wh : Int32) (sz : Nat)  : vt_Met l y_TM_said (.code y_TM_said prog_1_method_11_code 3 (some .int) :: AW) ({ frames := 7, cells := 1, slots := 6, locals := 122 }) (va_Pc [.ref h, .int kk_, .int wh] (preT_ D [(h, .inr (7, [.ref sc, .ref wo, .ref hi, .ref te])), (te, .inr (4, [.ref sc, .ref wo, .ref hi, .ref fr, .ref va, .ref sa, .ref re, .int 0, .int (-1)])), (sa, .inr (5, [.ref sk, .ref si, .int 0])), (re, .inr (5, [.ref rk, .ref ri, .int 0]))] [(cI, .int), (cZ, .boolean), (cJ, .long)] sz)) (vt_Q "java/util/NoSuchElementException" (va_A [(h, .inr (7, [.ref sc, .ref wo, .ref hi, .ref te])), (te, .inr (4, [.ref sc, .ref wo, .ref hi, .ref fr, .ref va, .ref sa, .ref re, .int 0, .int (-1)])), (sa, .inr (5, [.ref sk, .ref si, .int 0])), (re, .inr (5, [.ref rk, .ref ri, .int 0]))] sz)) 1 6 (va_A [(h, .inr (7, [.ref sc, .ref wo, .ref hi, .ref te])), (te, .inr (4, [.ref sc, .ref wo, .ref hi, .ref fr, .ref va, .ref sa, .ref re, .int 0, .int (-1)])), (sa, .inr (5, [.ref sk, .ref si, .int 0])), (re, .inr (5, [.ref rk, .ref ri, .int 0]))] sz) := by
  refine vt_ofW (cc := prog_1_method_11_code) (maxL := 3) (ret := (some .int)) (by decide) rfl ?_
  intro p e s m args below meth c s₁ B hml hne hv
  obtain ⟨rfl, ⟨rfl, hP, hK, hD0, hT⟩, hZ⟩ := hv
  have hx := B.exec
  have hb := B.bytes
  have hr := B.returns
  have hts0 := atoms_spec (ws := .code y_TM_said prog_1_method_11_code 3 (some .int) :: AW) B.pre
  have hts : ∀ w ∈ AW, w.before [.ref h, .int kk_, .int wh].toArray s = true := fun w h => hts0 w (List.mem_cons_of_mem _ h)
  have hown : s.vm.findClass "TaleMachine" = some m.cls := findClass_of_methodNamed B.named
  have hlocks := B.notSynchronized
  have hns := vt_plain hP
  have hD := hD0.self (sz := s.heap.size)
  generalize hAe : va_A [(h, .inr (7, [.ref sc, .ref wo, .ref hi, .ref te])), (te, .inr (4, [.ref sc, .ref wo, .ref hi, .ref fr, .ref va, .ref sa, .ref re, .int 0, .int (-1)])), (sa, .inr (5, [.ref sk, .ref si, .int 0])), (re, .inr (5, [.ref rk, .ref ri, .int 0]))] s.heap.size = A at hns hZ hD ⊢
  have hA : ∀ q : Nat, s.heap.size ≤ q → A q := fun q h => by rw [← hAe]; exact Or.inr h
  have hS : va_S A s.heap s.heap [] := va_S.rf
  have hl := lv_entry ([.ref h, .int kk_, .int wh]) (n := 3) (Nat.le_of_ble_eq_true rfl)
  rw [lg_entry_eq]
  generalize (lg_sl ([.ref h, .int kk_, .int wh]) ++ List.replicate (3 - (lg_sl ([.ref h, .int kk_, .int wh])).length) Slot.unset).toArray = ls at hl ⊢
  have hl : lv_has ls 3 [(0, .ref h), (1, .int kk_), (2, .int wh)] := hl
  refine lv_iload_n hx hb d_TM_said_0 rfl (lv_at hl 1 rfl) ?_
  refine lv_iconst (v := (-1)) hx hb d_TM_said_1 (by decide) ?_
  refine lv_icmp_ne hx hb d_TM_said_2 (tgt := 20) (by decide) (fun hc1 => ?_) (fun hc1 => ?_)
  · refine lv_aload_n hx hb d_TM_said_20 rfl (lv_at hl 0 rfl) ?_
    refine va_get (D := D) (ci := 7) (v := .ref te) (C := "TaleMachine") (T := F_TM) (N := 4) hx hb hts in_TM hown hK hP 0 rfl rfl 3 (by decide) (hts _ k_123) (fun _ h9 => h9) rfl d_TM_said_21 ?_
    refine va_get (D := D) (ci := 4) (v := .ref sa) (C := "TaleMachine$Teller") (T := F_Teller) (N := 9) hx hb hts in_Teller hown hK hP 1 rfl rfl 5 (by decide) (hts _ k_180) (fun _ h9 => h9) rfl d_TM_said_24 ?_
    refine lv_iload_n hx hb d_TM_said_27 rfl (lv_at hl 1 rfl) ?_
    refine lv_iload_n hx hb d_TM_said_28 rfl (lv_at hl 2 rfl) ?_
    exact vt_out (vt_runS (As := [.ref sa, .int kk_, .int wh]) (rest := []) ⟨hx, hb, hml, hown, hts⟩ (x_TM_part l hlt D cI cZ cJ sa sk si kk_ wh _ ) (va_cwS 3 hts (gInS k_190 k_191 k_192 k_189) rfl rfl rfl (by decide +kernel) ⟨Nat.le_of_ble_eq_true rfl, Nat.le_of_ble_eq_true rfl⟩) (preT_S (hP.sub [2] rfl) (hK.sub [0, 1, 2] rfl) (hD.sub [2] (by decide) rfl) hT (hZ.at hS (va_free (wc := [(sa, .inr (5, [.ref sk, .ref si, .int 0]))]) hD hS hA [2] rfl))) rfl rfl hl.1 rfl (lv_room (Nat.le_of_ble_eq_true rfl)) d_TM_said_29 ⟨Nat.le_of_ble_eq_true rfl, Nat.le_of_ble_eq_true rfl⟩) hS (fun q9 _ h9 => va_free (wc := [(sa, .inr (5, [.ref sk, .ref si, .int 0]))]) hD hS hA [2] rfl q9 h9) (va_free (wc := [(sa, .inr (5, [.ref sk, .ref si, .int 0]))]) hD hS hA [2] rfl) hne hlocks
  · refine lv_aload_n hx hb d_TM_said_5 rfl (lv_at hl 0 rfl) ?_
    refine va_get (D := D) (ci := 7) (v := .ref te) (C := "TaleMachine") (T := F_TM) (N := 4) hx hb hts in_TM hown hK hP 0 rfl rfl 3 (by decide) (hts _ k_123) (fun _ h9 => h9) rfl d_TM_said_6 ?_
    refine va_get (D := D) (ci := 4) (v := .ref re) (C := "TaleMachine$Teller") (T := F_Teller) (N := 9) hx hb hts in_Teller hown hK hP 1 rfl rfl 6 (by decide) (hts _ k_193) (fun _ h9 => h9) rfl d_TM_said_9 ?_
    refine lv_iconst (v := 0) hx hb d_TM_said_12 (by decide) ?_
    refine lv_iload_n hx hb d_TM_said_13 rfl (lv_at hl 2 rfl) ?_
    exact vt_out (vt_runS (As := [.ref re, .int 0, .int wh]) (rest := []) ⟨hx, hb, hml, hown, hts⟩ (x_TM_part l hlt D cI cZ cJ re rk ri 0 wh _ ) (va_cwS 3 hts (gInS k_190 k_191 k_192 k_189) rfl rfl rfl (by decide +kernel) ⟨Nat.le_of_ble_eq_true rfl, Nat.le_of_ble_eq_true rfl⟩) (preT_S (hP.sub [3] rfl) (hK.sub [0, 1, 2] rfl) (hD.sub [3] (by decide) rfl) hT (hZ.at hS (va_free (wc := [(re, .inr (5, [.ref rk, .ref ri, .int 0]))]) hD hS hA [3] rfl))) rfl rfl hl.1 rfl (lv_room (Nat.le_of_ble_eq_true rfl)) d_TM_said_14 ⟨Nat.le_of_ble_eq_true rfl, Nat.le_of_ble_eq_true rfl⟩) hS (fun q9 _ h9 => va_free (wc := [(re, .inr (5, [.ref rk, .ref ri, .int 0]))]) hD hS hA [3] rfl q9 h9) (va_free (wc := [(re, .inr (5, [.ref rk, .ref ri, .int 0]))]) hD hS hA [3] rfl) hne hlocks

set_option maxHeartbeats 4000000 in
set_option maxRecDepth 100000 in
theorem x_TM_show (l : Launch) (hlt : l.stackTraces = false) (D : va_G) (cI cZ cJ : ClassId) (h sc by_ wo st fl fn li rc kd it pa hi pt sv iz te fr va sa re vk vi sk si rk ri : Nat) (wh : Int32) (sz : Nat) (hw : (wh < 0 ∨ 5 < wh) ∨ wh = 1 ∨ wh = 2) : vt_Met l y_TM_show (.code y_TM_show prog_1_method_10_code 2 (some .int) :: AW) ({ frames := 6, cells := 1, slots := 6, locals := 100 }) (va_Pc [.ref h, .int wh] (preT_ D [(h, .inr (7, [.ref sc, .ref wo, .ref hi, .ref te])), (te, .inr (4, [.ref sc, .ref wo, .ref hi, .ref fr, .ref va, .ref sa, .ref re, .int 0, .int (-1)]))] [(cI, .int), (cZ, .boolean), (cJ, .long)] sz)) (vt_Q "java/util/NoSuchElementException" (va_A [(h, .inr (7, [.ref sc, .ref wo, .ref hi, .ref te])), (te, .inr (4, [.ref sc, .ref wo, .ref hi, .ref fr, .ref va, .ref sa, .ref re, .int 0, .int (-1)]))] sz)) 1 6 (va_A [(h, .inr (7, [.ref sc, .ref wo, .ref hi, .ref te])), (te, .inr (4, [.ref sc, .ref wo, .ref hi, .ref fr, .ref va, .ref sa, .ref re, .int 0, .int (-1)]))] sz) := by
  refine vt_ofW (cc := prog_1_method_10_code) (maxL := 2) (ret := (some .int)) (by decide) rfl ?_
  intro p e s m args below meth c s₁ B hml hne hv
  obtain ⟨rfl, ⟨rfl, hP, hK, hD0, hT⟩, hZ⟩ := hv
  have hx := B.exec
  have hb := B.bytes
  have hr := B.returns
  have hts0 := atoms_spec (ws := .code y_TM_show prog_1_method_10_code 2 (some .int) :: AW) B.pre
  have hts : ∀ w ∈ AW, w.before [.ref h, .int wh].toArray s = true := fun w h => hts0 w (List.mem_cons_of_mem _ h)
  have hown : s.vm.findClass "TaleMachine" = some m.cls := findClass_of_methodNamed B.named
  have hlocks := B.notSynchronized
  have hns := vt_plain hP
  have hD := hD0.self (sz := s.heap.size)
  generalize hAe : va_A [(h, .inr (7, [.ref sc, .ref wo, .ref hi, .ref te])), (te, .inr (4, [.ref sc, .ref wo, .ref hi, .ref fr, .ref va, .ref sa, .ref re, .int 0, .int (-1)]))] s.heap.size = A at hns hZ hD ⊢
  have hA : ∀ q : Nat, s.heap.size ≤ q → A q := fun q h => by rw [← hAe]; exact Or.inr h
  have hS : va_S A s.heap s.heap [] := va_S.rf
  have hl := lv_entry ([.ref h, .int wh]) (n := 2) (Nat.le_of_ble_eq_true rfl)
  rw [lg_entry_eq]
  generalize (lg_sl ([.ref h, .int wh]) ++ List.replicate (2 - (lg_sl ([.ref h, .int wh])).length) Slot.unset).toArray = ls at hl ⊢
  have hl : lv_has ls 2 [(0, .ref h), (1, .int wh)] := hl
  refine lv_iload_n hx hb d_TM_show_0 rfl (lv_at hl 1 rfl) ?_
  refine lv_iconst (v := 1) hx hb d_TM_show_1 (by decide) ?_
  refine lv_icmp_eq hx hb d_TM_show_2 (tgt := 10) (by decide) (fun hc1 => ?_) (fun hc1 => ?_)
  · refine lv_aload_n hx hb d_TM_show_10 rfl (lv_at hl 0 rfl) ?_
    refine va_get (D := D) (ci := 7) (v := .ref te) (C := "TaleMachine") (T := F_TM) (N := 4) hx hb hts in_TM hown hK hP 0 rfl rfl 3 (by decide) (hts _ k_123) (fun _ h9 => h9) rfl d_TM_show_11 ?_
    refine va_get (D := D) (ci := 4) (v := .int 0) (C := "TaleMachine$Teller") (T := F_Teller) (N := 9) hx hb hts in_Teller hown hK hP 1 rfl rfl 7 (by decide) (hts _ k_174) (fun _ h9 => h9) rfl d_TM_show_14 ?_
    refine lv_if_ne hx hb d_TM_show_17 (tgt := 30) (by decide) (fun hz => absurd (by decide) hz) (fun _ => ?_)
    exact th_goN hx hb hlt hown (Tb_N hT hZ) (hts _ k_186) (hts _ k_187) hT (List.mem_of_getElem? (i := 3) rfl) hS hns hne (hl.1.trans hml.symm) hlocks d_TM_show_20 d_TM_show_23 d_TM_show_24 d_TM_show_26 d_TM_show_29 (Nat.le_of_ble_eq_true rfl) (Nat.le_of_ble_eq_true rfl) (Nat.le_of_ble_eq_true rfl) (Nat.le_of_ble_eq_true rfl) (Nat.le_of_ble_eq_true rfl) (Nat.le_of_ble_eq_true rfl)
  · refine lv_iload_n hx hb d_TM_show_5 rfl (lv_at hl 1 rfl) ?_
    refine lv_iconst (v := 2) hx hb d_TM_show_6 (by decide) ?_
    refine lv_icmp_ne hx hb d_TM_show_7 (tgt := 30) (by decide) (fun hc2 => ?_) (fun hc2 => ?_)
    · refine lv_iload_n hx hb d_TM_show_30 rfl (lv_at hl 1 rfl) ?_
      refine lv_tableOut hx hb d_TM_show_31 (tgt := 125) (sw_out hc1 hc2 hw) (by decide) ?_
      exact th_goN hx hb hlt hown (Tb_N hT hZ) (hts _ k_186) (hts _ k_187) hT (List.mem_of_getElem? (i := 4) rfl) hS hns hne (hl.1.trans hml.symm) hlocks d_TM_show_125 d_TM_show_128 d_TM_show_129 d_TM_show_131 d_TM_show_134 (Nat.le_of_ble_eq_true rfl) (Nat.le_of_ble_eq_true rfl) (Nat.le_of_ble_eq_true rfl) (Nat.le_of_ble_eq_true rfl) (Nat.le_of_ble_eq_true rfl) (Nat.le_of_ble_eq_true rfl)
    · refine lv_aload_n hx hb d_TM_show_10 rfl (lv_at hl 0 rfl) ?_
      refine va_get (D := D) (ci := 7) (v := .ref te) (C := "TaleMachine") (T := F_TM) (N := 4) hx hb hts in_TM hown hK hP 0 rfl rfl 3 (by decide) (hts _ k_123) (fun _ h9 => h9) rfl d_TM_show_11 ?_
      refine va_get (D := D) (ci := 4) (v := .int 0) (C := "TaleMachine$Teller") (T := F_Teller) (N := 9) hx hb hts in_Teller hown hK hP 1 rfl rfl 7 (by decide) (hts _ k_174) (fun _ h9 => h9) rfl d_TM_show_14 ?_
      refine lv_if_ne hx hb d_TM_show_17 (tgt := 30) (by decide) (fun hz => absurd (by decide) hz) (fun _ => ?_)
      exact th_goN hx hb hlt hown (Tb_N hT hZ) (hts _ k_186) (hts _ k_187) hT (List.mem_of_getElem? (i := 3) rfl) hS hns hne (hl.1.trans hml.symm) hlocks d_TM_show_20 d_TM_show_23 d_TM_show_24 d_TM_show_26 d_TM_show_29 (Nat.le_of_ble_eq_true rfl) (Nat.le_of_ble_eq_true rfl) (Nat.le_of_ble_eq_true rfl) (Nat.le_of_ble_eq_true rfl) (Nat.le_of_ble_eq_true rfl) (Nat.le_of_ble_eq_true rfl)
