set_option maxHeartbeats 4000000 in
set_option maxRecDepth 100000 in
theorem l_object_1 (l : Launch) (D : va_G) (cI cZ cJ : ClassId) (h sc by_ wo st fl fn li rc kd it pa hi pt sv iz te fr va sa re vk vi sk si rk ri ou : Nat) (b c3 : Int32) (sz : Nat)  : Met l y_Law_object (.codeWith y_Law_object method_3_code 6 (some .int) [(0, 12, 15, 13), (0, 12, 19, 15)] :: AW) ({ frames := 2, cells := 0, slots := 0, locals := 51 }) (va_Pc [.ref h, .int (-1), .int b, .int c3, .ref ou] (pre_ D [(h, .inr (7, [.ref sc, .ref wo, .ref hi, .ref te])), (wo, .inr (6, [.ref st, .int 0, .ref fl, .ref fn, .ref li, .int 0, .ref rc, .int 0, .int 0])), (fl, .inl (cI, 256, .inl (fun _ => 0))), (fn, .inl (cI, 16, .inl (fun _ => 0))), (hi, .inr (1, [.ref pt, .ref sv, .ref iz, .int 0])), (iz, .inl (cZ, 2, .inl (fun _ => 0))), (te, .inr (4, [.ref sc, .ref wo, .ref hi, .ref fr, .ref va, .ref sa, .ref re, .int 0, .int (-1)])), (ou, .inl (cJ, 1, .inr (.inl (fun _ => 0))))] [(cI, .int), (cZ, .boolean), (cJ, .long)] sz)) (va_Qi (fun (r : Int32) (u : Unit) => r = 0) (fun _ t => post_ D (va_A [(h, .inr (7, [.ref sc, .ref wo, .ref hi, .ref te])), (wo, .inr (6, [.ref st, .int 0, .ref fl, .ref fn, .ref li, .int 0, .ref rc, .int 0, .int 0])), (fl, .inl (cI, 256, .inl (fun _ => 0))), (fn, .inl (cI, 16, .inl (fun _ => 0))), (hi, .inr (1, [.ref pt, .ref sv, .ref iz, .int 0])), (iz, .inl (cZ, 2, .inl (fun _ => 0))), (te, .inr (4, [.ref sc, .ref wo, .ref hi, .ref fr, .ref va, .ref sa, .ref re, .int 0, .int (-1)])), (ou, .inl (cJ, 1, .inr (.inl (fun _ => 0))))] sz) [(ou, .inl (cJ, 1, .inr (.inl (vp_updL (fun _ => 0) (0 : Int32).toNatClampNeg 0))))] t) (va_A [(h, .inr (7, [.ref sc, .ref wo, .ref hi, .ref te])), (wo, .inr (6, [.ref st, .int 0, .ref fl, .ref fn, .ref li, .int 0, .ref rc, .int 0, .int 0])), (fl, .inl (cI, 256, .inl (fun _ => 0))), (fn, .inl (cI, 16, .inl (fun _ => 0))), (hi, .inr (1, [.ref pt, .ref sv, .ref iz, .int 0])), (iz, .inl (cZ, 2, .inl (fun _ => 0))), (te, .inr (4, [.ref sc, .ref wo, .ref hi, .ref fr, .ref va, .ref sa, .ref re, .int 0, .int (-1)])), (ou, .inl (cJ, 1, .inr (.inl (fun _ => 0))))] sz)) 0 0 (va_A [(h, .inr (7, [.ref sc, .ref wo, .ref hi, .ref te])), (wo, .inr (6, [.ref st, .int 0, .ref fl, .ref fn, .ref li, .int 0, .ref rc, .int 0, .int 0])), (fl, .inl (cI, 256, .inl (fun _ => 0))), (fn, .inl (cI, 16, .inl (fun _ => 0))), (hi, .inr (1, [.ref pt, .ref sv, .ref iz, .int 0])), (iz, .inl (cZ, 2, .inl (fun _ => 0))), (te, .inr (4, [.ref sc, .ref wo, .ref hi, .ref fr, .ref va, .ref sa, .ref re, .int 0, .int (-1)])), (ou, .inl (cJ, 1, .inr (.inl (fun _ => 0))))] sz) := by
  refine va_MetW (cc := method_3_code) (maxL := 6) (ret := (some .int)) (by decide) rfl ?_
  intro p e s m args below meth c s₁ B hml hv
  obtain ⟨rfl, rfl, hP, hK, hD0, hT⟩ := hv
  have hx := B.exec
  have hb := B.bytes
  have hr := B.returns
  have hts0 := atoms_spec (ws := .codeWith y_Law_object method_3_code 6 (some .int) [(0, 12, 15, 13), (0, 12, 19, 15)] :: AW) B.pre
  have hts : ∀ w ∈ AW, w.before [.ref h, .int (-1), .int b, .int c3, .ref ou].toArray s = true := fun w h => hts0 w (List.mem_cons_of_mem _ h)
  have htab := vt_table B.named B.method (Stand.of_body B).code (hts0 _ List.mem_cons_self)
  have hown : s.vm.findClass "TaleMachineLaw" = some m.cls := findClass_of_methodNamed B.named
  have hlocks := B.notSynchronized
  have hD := hD0.self (sz := s.heap.size)
  generalize hAe : va_A [(h, .inr (7, [.ref sc, .ref wo, .ref hi, .ref te])), (wo, .inr (6, [.ref st, .int 0, .ref fl, .ref fn, .ref li, .int 0, .ref rc, .int 0, .int 0])), (fl, .inl (cI, 256, .inl (fun _ => 0))), (fn, .inl (cI, 16, .inl (fun _ => 0))), (hi, .inr (1, [.ref pt, .ref sv, .ref iz, .int 0])), (iz, .inl (cZ, 2, .inl (fun _ => 0))), (te, .inr (4, [.ref sc, .ref wo, .ref hi, .ref fr, .ref va, .ref sa, .ref re, .int 0, .int (-1)])), (ou, .inl (cJ, 1, .inr (.inl (fun _ => 0))))] s.heap.size = A at hD ⊢
  have hA : ∀ q : Nat, s.heap.size ≤ q → A q := fun q h => by rw [← hAe]; exact Or.inr h
  have hS : va_S A s.heap s.heap [] := va_S.rf
  have hl := lv_entry ([.ref h, .int (-1), .int b, .int c3, .ref ou]) (n := 6) (Nat.le_of_ble_eq_true rfl)
  rw [lg_entry_eq]
  generalize (lg_sl ([.ref h, .int (-1), .int b, .int c3, .ref ou]) ++ List.replicate (6 - (lg_sl ([.ref h, .int (-1), .int b, .int c3, .ref ou])).length) Slot.unset).toArray = ls at hl ⊢
  have hl : lv_has ls 6 [(0, .ref h), (1, .int (-1)), (2, .int b), (3, .int c3), (4, .ref ou)] := hl
  refine lv_aload hx hb d_Law_object_0 (lv_at hl 4 rfl) ?_
  refine lv_iconst (v := 0) hx hb d_Law_object_2 (by decide) ?_
  refine lv_aload_n hx hb d_Law_object_3 rfl (lv_at hl 0 rfl) ?_
  refine lv_iload_n hx hb d_Law_object_4 rfl (lv_at hl 1 rfl) ?_
  refine lv_iload_n hx hb d_Law_object_5 rfl (lv_at hl 2 rfl) ?_
  refine lv_iload_n hx hb d_Law_object_6 rfl (lv_at hl 3 rfl) ?_
  refine mv_i (va_runV (C := "TaleMachine") (As := [.int (-1), .int b, .int c3]) (rest := [.int 0, .ref ou]) ⟨hx, hb, hml, hown, hts⟩ (c_TM_object_1 l D cI cZ cJ h sc 0 wo st fl fn li rc 0 0 0 hi pt sv iz te fr va sa re 0 0 0 0 0 0 b c3 _ ) (cwV 3 hts (gInV k_213 k_214 k_215 k_192 k_212) rfl rfl rfl (by decide +kernel) ⟨Nat.le_of_ble_eq_true rfl, Nat.le_of_ble_eq_true rfl⟩) (pre_V (va_recv hK hP (q := ("TaleMachine", F_TM, 4)) rfl (q0 := 0) rfl) (hP.sub [0, 1, 2, 3, 4, 5, 6] rfl) (hK.sub [0, 1, 2] rfl) (hD.sub [0, 1, 2, 3, 4, 5, 6] (by decide) rfl) hT) rfl rfl hl.1 rfl (lv_room (Nat.le_of_ble_eq_true rfl)) d_Law_object_7 ⟨Nat.le_of_ble_eq_true rfl, Nat.le_of_ble_eq_true rfl⟩) hP hD hS hA [0, 1, 2, 3, 4, 5, 6] [7] rfl rfl (by decide) (by decide) (wr := [(ou, .inl (cJ, 1, .inr (.inl (fun _ => 0))))]) (wn := fun _ => []) (fun _ _ h9 => h9) (fun r1 _ H locs hp2 hP hD hS => ?_)
  have hP : va_P D cL [(ou, .inl (cJ, 1, .inr (.inl (fun _ => 0))))] H := hP
  have hD : va_D A [(ou, .inl (cJ, 1, .inr (.inl (fun _ => 0))))] := hD
  obtain rfl : r1 = 0 := hp2
  refine lv_i2l (v := 0) hx hb d_Law_object_10 (by decide) ?_
  refine va_last hx hb hK hP hD hS 0 2 rfl rfl (i := 0) (x := 0) (in_c (by decide)) d_Law_object_11 (fun H locs hP hD hS => ?_)
  have hP : va_P D cL [(ou, .inl (cJ, 1, .inr (.inl (vp_updL (fun _ => 0) (0 : Int32).toNatClampNeg 0))))] H := hP
  have hD : va_D A [(ou, .inl (cJ, 1, .inr (.inl (vp_updL (fun _ => 0) (0 : Int32).toNatClampNeg 0))))] := hD
  refine lv_goto hx hb d_Law_object_12 (tgt := 23) (by decide) ?_
  refine lv_iconst (v := 0) hx hb d_Law_object_23 (by decide) ?_
  exact end_i hx hb hr hlocks hS (u := ()) (r := 0) (at_end (hP.sub (ws' := [(ou, .inl (cJ, 1, .inr (.inl (vp_updL (fun _ => 0) (0 : Int32).toNatClampNeg 0))))]) [0] rfl) (hD.sub (ws' := [(ou, .inl (cJ, 1, .inr (.inl (vp_updL (fun _ => 0) (0 : Int32).toNatClampNeg 0))))]) [0] (by decide) rfl)) (rfl) (Nat.le_of_ble_eq_true rfl) (Nat.le_of_ble_eq_true rfl) d_Law_object_24

set_option maxHeartbeats 4000000 in
set_option maxRecDepth 100000 in
theorem l_object_2 (l : Launch) (hlt : l.stackTraces = false) (D : va_G) (cI cZ cJ : ClassId) (h sc by_ wo st fl fn li rc kd it pa hi pt sv iz te fr va sa re vk vi sk si rk ri ou : Nat) (oo b c3 : Int32) (sz : Nat) (ho : oo ≠ -1) : Met l y_Law_object (.codeWith y_Law_object method_3_code 6 (some .int) [(0, 12, 15, 13), (0, 12, 19, 15)] :: AW) ({ frames := 7, cells := 1, slots := 6, locals := 124 }) (va_Pc [.ref h, .int oo, .int b, .int c3, .ref ou] (preT_ D [(h, .inr (7, [.ref sc, .ref wo, .ref hi, .ref te])), (wo, .inr (6, [.ref st, .int 0, .ref fl, .ref fn, .ref li, .int 0, .ref rc, .int 0, .int 0])), (ou, .inl (cJ, 1, .inr (.inl (fun _ => 0))))] [(cI, .int), (cZ, .boolean), (cJ, .long)] sz)) (va_Qi (fun (r : Int32) (u : Unit) => r = 1) (fun _ t => post_ D (va_A [(h, .inr (7, [.ref sc, .ref wo, .ref hi, .ref te])), (wo, .inr (6, [.ref st, .int 0, .ref fl, .ref fn, .ref li, .int 0, .ref rc, .int 0, .int 0])), (ou, .inl (cJ, 1, .inr (.inl (fun _ => 0))))] sz) [] t) (va_A [(h, .inr (7, [.ref sc, .ref wo, .ref hi, .ref te])), (wo, .inr (6, [.ref st, .int 0, .ref fl, .ref fn, .ref li, .int 0, .ref rc, .int 0, .int 0])), (ou, .inl (cJ, 1, .inr (.inl (fun _ => 0))))] sz)) 1 6 (va_A [(h, .inr (7, [.ref sc, .ref wo, .ref hi, .ref te])), (wo, .inr (6, [.ref st, .int 0, .ref fl, .ref fn, .ref li, .int 0, .ref rc, .int 0, .int 0])), (ou, .inl (cJ, 1, .inr (.inl (fun _ => 0))))] sz) := by
  refine va_MetW (cc := method_3_code) (maxL := 6) (ret := (some .int)) (by decide) rfl ?_
  intro p e s m args below meth c s₁ B hml hv
  obtain ⟨rfl, ⟨rfl, hP, hK, hD0, hT⟩, hZ⟩ := hv
  have hx := B.exec
  have hb := B.bytes
  have hr := B.returns
  have hts0 := atoms_spec (ws := .codeWith y_Law_object method_3_code 6 (some .int) [(0, 12, 15, 13), (0, 12, 19, 15)] :: AW) B.pre
  have hts : ∀ w ∈ AW, w.before [.ref h, .int oo, .int b, .int c3, .ref ou].toArray s = true := fun w h => hts0 w (List.mem_cons_of_mem _ h)
  have htab := vt_table B.named B.method (Stand.of_body B).code (hts0 _ List.mem_cons_self)
  have hown : s.vm.findClass "TaleMachineLaw" = some m.cls := findClass_of_methodNamed B.named
  have hlocks := B.notSynchronized
  have hns := vt_plain hP
  have hD := hD0.self (sz := s.heap.size)
  generalize hAe : va_A [(h, .inr (7, [.ref sc, .ref wo, .ref hi, .ref te])), (wo, .inr (6, [.ref st, .int 0, .ref fl, .ref fn, .ref li, .int 0, .ref rc, .int 0, .int 0])), (ou, .inl (cJ, 1, .inr (.inl (fun _ => 0))))] s.heap.size = A at hns hZ hD ⊢
  have hA : ∀ q : Nat, s.heap.size ≤ q → A q := fun q h => by rw [← hAe]; exact Or.inr h
  have hS : va_S A s.heap s.heap [] := va_S.rf
  have hl := lv_entry ([.ref h, .int oo, .int b, .int c3, .ref ou]) (n := 6) (Nat.le_of_ble_eq_true rfl)
  rw [lg_entry_eq]
  generalize (lg_sl ([.ref h, .int oo, .int b, .int c3, .ref ou]) ++ List.replicate (6 - (lg_sl ([.ref h, .int oo, .int b, .int c3, .ref ou])).length) Slot.unset).toArray = ls at hl ⊢
  have hl : lv_has ls 6 [(0, .ref h), (1, .int oo), (2, .int b), (3, .int c3), (4, .ref ou)] := hl
  refine lv_aload hx hb d_Law_object_0 (lv_at hl 4 rfl) ?_
  refine lv_iconst (v := 0) hx hb d_Law_object_2 (by decide) ?_
  refine lv_aload_n hx hb d_Law_object_3 rfl (lv_at hl 0 rfl) ?_
  refine lv_iload_n hx hb d_Law_object_4 rfl (lv_at hl 1 rfl) ?_
  refine lv_iload_n hx hb d_Law_object_5 rfl (lv_at hl 2 rfl) ?_
  refine lv_iload_n hx hb d_Law_object_6 rfl (lv_at hl 3 rfl) ?_
  refine vt_catch (own := "TaleMachineLaw") (vt_runV (C := "TaleMachine") (As := [.int oo, .int b, .int c3]) (rest := [.int 0, .ref ou]) ⟨hx, hb, hml, hown, hts⟩ (x_TM_object_2 l hlt D cI cZ cJ h sc 0 wo st fl fn li rc 0 0 0 hi 0 0 0 te 0 0 0 0 0 0 0 0 0 0 oo b c3 _ (by first | assumption | decide | omega)) (cwV 3 hts (gInV k_213 k_214 k_215 k_192 k_212) rfl rfl rfl (by decide +kernel) ⟨Nat.le_of_ble_eq_true rfl, Nat.le_of_ble_eq_true rfl⟩) (preT_V (va_recv hK hP (q := ("TaleMachine", F_TM, 4)) rfl (q0 := 0) rfl) (hP.sub [0, 1] rfl) (hK.sub [0, 1, 2] rfl) (hD.sub [0, 1] (by decide) rfl) hT (hZ.at hS (va_free (wc := [(h, .inr (7, [.ref sc, .ref wo, .ref hi, .ref te])), (wo, .inr (6, [.ref st, .int 0, .ref fl, .ref fn, .ref li, .int 0, .ref rc, .int 0, .int 0]))]) hD hS hA [0, 1] rfl))) rfl rfl hl.1 rfl (lv_room (Nat.le_of_ble_eq_true rfl)) d_Law_object_7 ⟨Nat.le_of_ble_eq_true rfl, Nat.le_of_ble_eq_true rfl⟩) hS (fun q9 _ h9 => va_free (wc := [(h, .inr (7, [.ref sc, .ref wo, .ref hi, .ref te])), (wo, .inr (6, [.ref st, .int 0, .ref fl, .ref fn, .ref li, .int 0, .ref rc, .int 0, .int 0]))]) hD hS hA [0, 1] rfl q9 h9) (va_free (wc := [(h, .inr (7, [.ref sc, .ref wo, .ref hi, .ref te])), (wo, .inr (6, [.ref st, .int 0, .ref fl, .ref fn, .ref li, .int 0, .ref rc, .int 0, .int 0]))]) hD hS hA [0, 1] rfl) hown htab (by decide) (by decide) (hts _ k_216) (Tb_cast_A hT) (fun qx H locs hz hk hS => ?_)
  refine W.widen (k := 1) (n := 6) (Nat.le_of_ble_eq_true rfl) (Nat.le_of_ble_eq_true rfl) ?_
  have hP : va_P D cL [] H := va_nil
  have hD : va_D A [] := hD.sub (ws' := []) [] (by decide) rfl
  refine lv_astore (lv' := [(5, .ref qx), (0, .ref h), (1, .int oo), (2, .int b), (3, .int c3), (4, .ref ou)]) hx hb d_Law_object_15 hl (by decide) rfl (fun ls hl => ?_)
  refine lv_iconst (v := 1) hx hb d_Law_object_17 (by decide) ?_
  exact end_i hx hb hr hlocks hS (u := ()) (r := 1) (at_end (hP.sub (ws' := []) [] rfl) (hD.sub (ws' := []) [] (by decide) rfl)) (rfl) (Nat.le_of_ble_eq_true rfl) (Nat.le_of_ble_eq_true rfl) d_Law_object_18

set_option maxHeartbeats 4000000 in
set_option maxRecDepth 100000 in
theorem l_property (l : Launch) (hlt : l.stackTraces = false) (D : va_G) (cI cZ cJ : ClassId) (h sc by_ wo st fl fn li rc kd it pa hi pt sv iz te fr va sa re vk vi sk si rk ri : Nat) (oo pp kd2 vl : Int32) (sz : Nat)  : Met l y_Law_property (.codeWith y_Law_property method_4_code 6 (some .int) [(0, 9, 12, 21), (0, 9, 16, 13), (0, 9, 20, 15)] :: AW) ({ frames := 7, cells := 1, slots := 6, locals := 124 }) (va_Pc [.ref h, .int oo, .int pp, .int kd2, .int vl] (preT_ D [(h, .inr (7, [.ref sc, .ref wo, .ref hi, .ref te])), (wo, .inr (6, [.ref st, .int 0, .ref fl, .ref fn, .ref li, .int 0, .ref rc, .int 0, .int 0])), (st, .inr (3, [.ref kd, .ref it, .ref pa])), (pa, .inl (cI, 16, .inl (fun _ => -1)))] [(cI, .int), (cZ, .boolean), (cJ, .long)] sz)) (va_Qi (fun (r : Int32) (u : Unit) => r = 1) (fun _ t => post_ D (va_A [(h, .inr (7, [.ref sc, .ref wo, .ref hi, .ref te])), (wo, .inr (6, [.ref st, .int 0, .ref fl, .ref fn, .ref li, .int 0, .ref rc, .int 0, .int 0])), (st, .inr (3, [.ref kd, .ref it, .ref pa])), (pa, .inl (cI, 16, .inl (fun _ => -1)))] sz) [] t) (va_A [(h, .inr (7, [.ref sc, .ref wo, .ref hi, .ref te])), (wo, .inr (6, [.ref st, .int 0, .ref fl, .ref fn, .ref li, .int 0, .ref rc, .int 0, .int 0])), (st, .inr (3, [.ref kd, .ref it, .ref pa])), (pa, .inl (cI, 16, .inl (fun _ => -1)))] sz)) 1 6 (va_A [(h, .inr (7, [.ref sc, .ref wo, .ref hi, .ref te])), (wo, .inr (6, [.ref st, .int 0, .ref fl, .ref fn, .ref li, .int 0, .ref rc, .int 0, .int 0])), (st, .inr (3, [.ref kd, .ref it, .ref pa])), (pa, .inl (cI, 16, .inl (fun _ => -1)))] sz) := by
  refine va_MetW (cc := method_4_code) (maxL := 6) (ret := (some .int)) (by decide) rfl ?_
  intro p e s m args below meth c s₁ B hml hv
  obtain ⟨rfl, ⟨rfl, hP, hK, hD0, hT⟩, hZ⟩ := hv
  have hx := B.exec
  have hb := B.bytes
  have hr := B.returns
  have hts0 := atoms_spec (ws := .codeWith y_Law_property method_4_code 6 (some .int) [(0, 9, 12, 21), (0, 9, 16, 13), (0, 9, 20, 15)] :: AW) B.pre
  have hts : ∀ w ∈ AW, w.before [.ref h, .int oo, .int pp, .int kd2, .int vl].toArray s = true := fun w h => hts0 w (List.mem_cons_of_mem _ h)
  have htab := vt_table B.named B.method (Stand.of_body B).code (hts0 _ List.mem_cons_self)
  have hown : s.vm.findClass "TaleMachineLaw" = some m.cls := findClass_of_methodNamed B.named
  have hlocks := B.notSynchronized
  have hns := vt_plain hP
  have hD := hD0.self (sz := s.heap.size)
  generalize hAe : va_A [(h, .inr (7, [.ref sc, .ref wo, .ref hi, .ref te])), (wo, .inr (6, [.ref st, .int 0, .ref fl, .ref fn, .ref li, .int 0, .ref rc, .int 0, .int 0])), (st, .inr (3, [.ref kd, .ref it, .ref pa])), (pa, .inl (cI, 16, .inl (fun _ => -1)))] s.heap.size = A at hns hZ hD ⊢
  have hA : ∀ q : Nat, s.heap.size ≤ q → A q := fun q h => by rw [← hAe]; exact Or.inr h
  have hS : va_S A s.heap s.heap [] := va_S.rf
  have hl := lv_entry ([.ref h, .int oo, .int pp, .int kd2, .int vl]) (n := 6) (Nat.le_of_ble_eq_true rfl)
  rw [lg_entry_eq]
  generalize (lg_sl ([.ref h, .int oo, .int pp, .int kd2, .int vl]) ++ List.replicate (6 - (lg_sl ([.ref h, .int oo, .int pp, .int kd2, .int vl])).length) Slot.unset).toArray = ls at hl ⊢
  have hl : lv_has ls 6 [(0, .ref h), (1, .int oo), (2, .int pp), (3, .int kd2), (4, .int vl)] := hl
  refine lv_aload_n hx hb d_Law_property_0 rfl (lv_at hl 0 rfl) ?_
  refine lv_iload_n hx hb d_Law_property_1 rfl (lv_at hl 1 rfl) ?_
  refine lv_iload_n hx hb d_Law_property_2 rfl (lv_at hl 2 rfl) ?_
  refine lv_iload_n hx hb d_Law_property_3 rfl (lv_at hl 3 rfl) ?_
  refine lv_iload hx hb d_Law_property_4 (lv_at hl 4 rfl) ?_
  refine vt_catch (own := "TaleMachineLaw") (vt_runV (C := "TaleMachine") (As := [.int oo, .int pp, .int kd2, .int vl]) (rest := []) ⟨hx, hb, hml, hown, hts⟩ (x_TM_property l hlt D cI cZ cJ h sc 0 wo st fl fn li rc kd it pa hi 0 0 0 te 0 0 0 0 0 0 0 0 0 0 oo pp kd2 vl _ ) (cwV 4 hts (gInV k_218 k_219 k_220 k_192 k_217) rfl rfl rfl (by decide +kernel) ⟨Nat.le_of_ble_eq_true rfl, Nat.le_of_ble_eq_true rfl⟩) (preT_V (va_recv hK hP (q := ("TaleMachine", F_TM, 4)) rfl (q0 := 0) rfl) (hP.sub [0, 1, 2, 3] rfl) (hK.sub [0, 1, 2] rfl) (hD.sub [0, 1, 2, 3] (by decide) rfl) hT (hZ.at hS (va_free (wc := [(h, .inr (7, [.ref sc, .ref wo, .ref hi, .ref te])), (wo, .inr (6, [.ref st, .int 0, .ref fl, .ref fn, .ref li, .int 0, .ref rc, .int 0, .int 0])), (st, .inr (3, [.ref kd, .ref it, .ref pa])), (pa, .inl (cI, 16, .inl (fun _ => -1)))]) hD hS hA [0, 1, 2, 3] rfl))) rfl rfl hl.1 rfl (lv_room (Nat.le_of_ble_eq_true rfl)) d_Law_property_6 ⟨Nat.le_of_ble_eq_true rfl, Nat.le_of_ble_eq_true rfl⟩) hS (fun q9 _ h9 => va_free (wc := [(h, .inr (7, [.ref sc, .ref wo, .ref hi, .ref te])), (wo, .inr (6, [.ref st, .int 0, .ref fl, .ref fn, .ref li, .int 0, .ref rc, .int 0, .int 0])), (st, .inr (3, [.ref kd, .ref it, .ref pa])), (pa, .inl (cI, 16, .inl (fun _ => -1)))]) hD hS hA [0, 1, 2, 3] rfl q9 h9) (va_free (wc := [(h, .inr (7, [.ref sc, .ref wo, .ref hi, .ref te])), (wo, .inr (6, [.ref st, .int 0, .ref fl, .ref fn, .ref li, .int 0, .ref rc, .int 0, .int 0])), (st, .inr (3, [.ref kd, .ref it, .ref pa])), (pa, .inl (cI, 16, .inl (fun _ => -1)))]) hD hS hA [0, 1, 2, 3] rfl) hown htab (by decide) (by decide) (hts _ k_221) (Tb_cast_N hT) (fun qx H locs hz hk hS => ?_)
  refine W.widen (k := 1) (n := 6) (Nat.le_of_ble_eq_true rfl) (Nat.le_of_ble_eq_true rfl) ?_
  have hP : va_P D cL [] H := va_nil
  have hD : va_D A [] := hD.sub (ws' := []) [] (by decide) rfl
  refine lv_astore (lv' := [(5, .ref qx), (0, .ref h), (1, .int oo), (2, .int pp), (3, .int kd2), (4, .int vl)]) hx hb d_Law_property_12 hl (by decide) rfl (fun ls hl => ?_)
  refine lv_iconst (v := 1) hx hb d_Law_property_14 (by decide) ?_
  exact end_i hx hb hr hlocks hS (u := ()) (r := 1) (at_end (hP.sub (ws' := []) [] rfl) (hD.sub (ws' := []) [] (by decide) rfl)) (rfl) (Nat.le_of_ble_eq_true rfl) (Nat.le_of_ble_eq_true rfl) d_Law_property_15

set_option maxHeartbeats 4000000 in
set_option maxRecDepth 100000 in
theorem l_begin (l : Launch) (hlt : l.stackTraces = false) (D : va_G) (cI cZ cJ : ClassId) (h sc by_ wo st fl fn li rc kd it pa hi pt sv iz te fr va sa re vk vi sk si rk ri : Nat) (oo pp : Int32) (sz : Nat)  : Met l y_Law_begin (.codeWith y_Law_begin method_5_code 4 (some .int) [(0, 6, 9, 21), (0, 6, 12, 13), (0, 6, 15, 15)] :: AW) ({ frames := 7, cells := 1, slots := 6, locals := 123 }) (va_Pc [.ref h, .int oo, .int pp] (preT_ D [(h, .inr (7, [.ref sc, .ref wo, .ref hi, .ref te])), (wo, .inr (6, [.ref st, .int 0, .ref fl, .ref fn, .ref li, .int 0, .ref rc, .int 0, .int 0])), (st, .inr (3, [.ref kd, .ref it, .ref pa])), (pa, .inl (cI, 16, .inl (fun _ => -1)))] [(cI, .int), (cZ, .boolean), (cJ, .long)] sz)) (va_Qi (fun (r : Int32) (u : Unit) => r = 1) (fun _ t => post_ D (va_A [(h, .inr (7, [.ref sc, .ref wo, .ref hi, .ref te])), (wo, .inr (6, [.ref st, .int 0, .ref fl, .ref fn, .ref li, .int 0, .ref rc, .int 0, .int 0])), (st, .inr (3, [.ref kd, .ref it, .ref pa])), (pa, .inl (cI, 16, .inl (fun _ => -1)))] sz) [] t) (va_A [(h, .inr (7, [.ref sc, .ref wo, .ref hi, .ref te])), (wo, .inr (6, [.ref st, .int 0, .ref fl, .ref fn, .ref li, .int 0, .ref rc, .int 0, .int 0])), (st, .inr (3, [.ref kd, .ref it, .ref pa])), (pa, .inl (cI, 16, .inl (fun _ => -1)))] sz)) 1 6 (va_A [(h, .inr (7, [.ref sc, .ref wo, .ref hi, .ref te])), (wo, .inr (6, [.ref st, .int 0, .ref fl, .ref fn, .ref li, .int 0, .ref rc, .int 0, .int 0])), (st, .inr (3, [.ref kd, .ref it, .ref pa])), (pa, .inl (cI, 16, .inl (fun _ => -1)))] sz) := by
  refine va_MetW (cc := method_5_code) (maxL := 4) (ret := (some .int)) (by decide) rfl ?_
  intro p e s m args below meth c s₁ B hml hv
  obtain ⟨rfl, ⟨rfl, hP, hK, hD0, hT⟩, hZ⟩ := hv
  have hx := B.exec
  have hb := B.bytes
  have hr := B.returns
  have hts0 := atoms_spec (ws := .codeWith y_Law_begin method_5_code 4 (some .int) [(0, 6, 9, 21), (0, 6, 12, 13), (0, 6, 15, 15)] :: AW) B.pre
  have hts : ∀ w ∈ AW, w.before [.ref h, .int oo, .int pp].toArray s = true := fun w h => hts0 w (List.mem_cons_of_mem _ h)
  have htab := vt_table B.named B.method (Stand.of_body B).code (hts0 _ List.mem_cons_self)
  have hown : s.vm.findClass "TaleMachineLaw" = some m.cls := findClass_of_methodNamed B.named
  have hlocks := B.notSynchronized
  have hns := vt_plain hP
  have hD := hD0.self (sz := s.heap.size)
  generalize hAe : va_A [(h, .inr (7, [.ref sc, .ref wo, .ref hi, .ref te])), (wo, .inr (6, [.ref st, .int 0, .ref fl, .ref fn, .ref li, .int 0, .ref rc, .int 0, .int 0])), (st, .inr (3, [.ref kd, .ref it, .ref pa])), (pa, .inl (cI, 16, .inl (fun _ => -1)))] s.heap.size = A at hns hZ hD ⊢
  have hA : ∀ q : Nat, s.heap.size ≤ q → A q := fun q h => by rw [← hAe]; exact Or.inr h
  have hS : va_S A s.heap s.heap [] := va_S.rf
  have hl := lv_entry ([.ref h, .int oo, .int pp]) (n := 4) (Nat.le_of_ble_eq_true rfl)
  rw [lg_entry_eq]
  generalize (lg_sl ([.ref h, .int oo, .int pp]) ++ List.replicate (4 - (lg_sl ([.ref h, .int oo, .int pp])).length) Slot.unset).toArray = ls at hl ⊢
  have hl : lv_has ls 4 [(0, .ref h), (1, .int oo), (2, .int pp)] := hl
  refine lv_aload_n hx hb d_Law_begin_0 rfl (lv_at hl 0 rfl) ?_
  refine lv_iload_n hx hb d_Law_begin_1 rfl (lv_at hl 1 rfl) ?_
  refine lv_iload_n hx hb d_Law_begin_2 rfl (lv_at hl 2 rfl) ?_
  refine vt_catch (own := "TaleMachineLaw") (vt_runV (C := "TaleMachine") (As := [.int oo, .int pp]) (rest := []) ⟨hx, hb, hml, hown, hts⟩ (x_TM_begin l hlt D cI cZ cJ h sc 0 wo st fl fn li rc kd it pa hi 0 0 0 te 0 0 0 0 0 0 0 0 0 0 oo pp _ ) (cwV 2 hts (gInV k_223 k_224 k_225 k_192 k_222) rfl rfl rfl (by decide +kernel) ⟨Nat.le_of_ble_eq_true rfl, Nat.le_of_ble_eq_true rfl⟩) (preT_V (va_recv hK hP (q := ("TaleMachine", F_TM, 4)) rfl (q0 := 0) rfl) (hP.sub [0, 1, 2, 3] rfl) (hK.sub [0, 1, 2] rfl) (hD.sub [0, 1, 2, 3] (by decide) rfl) hT (hZ.at hS (va_free (wc := [(h, .inr (7, [.ref sc, .ref wo, .ref hi, .ref te])), (wo, .inr (6, [.ref st, .int 0, .ref fl, .ref fn, .ref li, .int 0, .ref rc, .int 0, .int 0])), (st, .inr (3, [.ref kd, .ref it, .ref pa])), (pa, .inl (cI, 16, .inl (fun _ => -1)))]) hD hS hA [0, 1, 2, 3] rfl))) rfl rfl hl.1 rfl (lv_room (Nat.le_of_ble_eq_true rfl)) d_Law_begin_3 ⟨Nat.le_of_ble_eq_true rfl, Nat.le_of_ble_eq_true rfl⟩) hS (fun q9 _ h9 => va_free (wc := [(h, .inr (7, [.ref sc, .ref wo, .ref hi, .ref te])), (wo, .inr (6, [.ref st, .int 0, .ref fl, .ref fn, .ref li, .int 0, .ref rc, .int 0, .int 0])), (st, .inr (3, [.ref kd, .ref it, .ref pa])), (pa, .inl (cI, 16, .inl (fun _ => -1)))]) hD hS hA [0, 1, 2, 3] rfl q9 h9) (va_free (wc := [(h, .inr (7, [.ref sc, .ref wo, .ref hi, .ref te])), (wo, .inr (6, [.ref st, .int 0, .ref fl, .ref fn, .ref li, .int 0, .ref rc, .int 0, .int 0])), (st, .inr (3, [.ref kd, .ref it, .ref pa])), (pa, .inl (cI, 16, .inl (fun _ => -1)))]) hD hS hA [0, 1, 2, 3] rfl) hown htab (by decide) (by decide) (hts _ k_221) (Tb_cast_N hT) (fun qx H locs hz hk hS => ?_)
  refine W.widen (k := 1) (n := 6) (Nat.le_of_ble_eq_true rfl) (Nat.le_of_ble_eq_true rfl) ?_
  have hP : va_P D cL [] H := va_nil
  have hD : va_D A [] := hD.sub (ws' := []) [] (by decide) rfl
  refine lv_astore_n (lv' := [(3, .ref qx), (0, .ref h), (1, .int oo), (2, .int pp)]) hx hb d_Law_begin_9 rfl hl (by decide) rfl (fun ls hl => ?_)
  refine lv_iconst (v := 1) hx hb d_Law_begin_10 (by decide) ?_
  exact end_i hx hb hr hlocks hS (u := ()) (r := 1) (at_end (hP.sub (ws' := []) [] rfl) (hD.sub (ws' := []) [] (by decide) rfl)) (rfl) (Nat.le_of_ble_eq_true rfl) (Nat.le_of_ble_eq_true rfl) d_Law_begin_11

set_option maxHeartbeats 4000000 in
set_option maxRecDepth 100000 in
theorem l_stack (l : Launch) (hlt : l.stackTraces = false) (D : va_G) (cI cZ cJ : ClassId) (h sc by_ wo st fl fn li rc kd it pa hi pt sv iz te fr va sa re vk vi sk si rk ri ou : Nat) (kk_ wh : Int32) (sz : Nat)  : Met l y_Law_stack (.codeWith y_Law_stack method_6_code 5 (some .int) [(0, 10, 13, 21)] :: AW) ({ frames := 8, cells := 1, slots := 6, locals := 144 }) (va_Pc [.ref h, .int kk_, .int wh, .ref ou] (preT_ D [(h, .inr (7, [.ref sc, .ref wo, .ref hi, .ref te])), (te, .inr (4, [.ref sc, .ref wo, .ref hi, .ref fr, .ref va, .ref sa, .ref re, .int 0, .int (-1)])), (va, .inr (5, [.ref vk, .ref vi, .int 0])), (ou, .inl (cJ, 1, .inr (.inl (fun _ => 0))))] [(cI, .int), (cZ, .boolean), (cJ, .long)] sz)) (va_Qi (fun (r : Int32) (u : Unit) => r = 1) (fun _ t => post_ D (va_A [(h, .inr (7, [.ref sc, .ref wo, .ref hi, .ref te])), (te, .inr (4, [.ref sc, .ref wo, .ref hi, .ref fr, .ref va, .ref sa, .ref re, .int 0, .int (-1)])), (va, .inr (5, [.ref vk, .ref vi, .int 0])), (ou, .inl (cJ, 1, .inr (.inl (fun _ => 0))))] sz) [] t) (va_A [(h, .inr (7, [.ref sc, .ref wo, .ref hi, .ref te])), (te, .inr (4, [.ref sc, .ref wo, .ref hi, .ref fr, .ref va, .ref sa, .ref re, .int 0, .int (-1)])), (va, .inr (5, [.ref vk, .ref vi, .int 0])), (ou, .inl (cJ, 1, .inr (.inl (fun _ => 0))))] sz)) 1 6 (va_A [(h, .inr (7, [.ref sc, .ref wo, .ref hi, .ref te])), (te, .inr (4, [.ref sc, .ref wo, .ref hi, .ref fr, .ref va, .ref sa, .ref re, .int 0, .int (-1)])), (va, .inr (5, [.ref vk, .ref vi, .int 0])), (ou, .inl (cJ, 1, .inr (.inl (fun _ => 0))))] sz) := by
  refine va_MetW (cc := method_6_code) (maxL := 5) (ret := (some .int)) (by decide) rfl ?_
  intro p e s m args below meth c s₁ B hml hv
  obtain ⟨rfl, ⟨rfl, hP, hK, hD0, hT⟩, hZ⟩ := hv
  have hx := B.exec
  have hb := B.bytes
  have hr := B.returns
  have hts0 := atoms_spec (ws := .codeWith y_Law_stack method_6_code 5 (some .int) [(0, 10, 13, 21)] :: AW) B.pre
  have hts : ∀ w ∈ AW, w.before [.ref h, .int kk_, .int wh, .ref ou].toArray s = true := fun w h => hts0 w (List.mem_cons_of_mem _ h)
  have htab := vt_table B.named B.method (Stand.of_body B).code (hts0 _ List.mem_cons_self)
  have hown : s.vm.findClass "TaleMachineLaw" = some m.cls := findClass_of_methodNamed B.named
  have hlocks := B.notSynchronized
  have hns := vt_plain hP
  have hD := hD0.self (sz := s.heap.size)
  generalize hAe : va_A [(h, .inr (7, [.ref sc, .ref wo, .ref hi, .ref te])), (te, .inr (4, [.ref sc, .ref wo, .ref hi, .ref fr, .ref va, .ref sa, .ref re, .int 0, .int (-1)])), (va, .inr (5, [.ref vk, .ref vi, .int 0])), (ou, .inl (cJ, 1, .inr (.inl (fun _ => 0))))] s.heap.size = A at hns hZ hD ⊢
  have hA : ∀ q : Nat, s.heap.size ≤ q → A q := fun q h => by rw [← hAe]; exact Or.inr h
  have hS : va_S A s.heap s.heap [] := va_S.rf
  have hl := lv_entry ([.ref h, .int kk_, .int wh, .ref ou]) (n := 5) (Nat.le_of_ble_eq_true rfl)
  rw [lg_entry_eq]
  generalize (lg_sl ([.ref h, .int kk_, .int wh, .ref ou]) ++ List.replicate (5 - (lg_sl ([.ref h, .int kk_, .int wh, .ref ou])).length) Slot.unset).toArray = ls at hl ⊢
  have hl : lv_has ls 5 [(0, .ref h), (1, .int kk_), (2, .int wh), (3, .ref ou)] := hl
  refine lv_aload_n hx hb d_Law_stack_0 rfl (lv_at hl 3 rfl) ?_
  refine lv_iconst (v := 0) hx hb d_Law_stack_1 (by decide) ?_
  refine lv_aload_n hx hb d_Law_stack_2 rfl (lv_at hl 0 rfl) ?_
  refine lv_iload_n hx hb d_Law_stack_3 rfl (lv_at hl 1 rfl) ?_
  refine lv_iload_n hx hb d_Law_stack_4 rfl (lv_at hl 2 rfl) ?_
  refine vt_catch (own := "TaleMachineLaw") (vt_runV (C := "TaleMachine") (As := [.int kk_, .int wh]) (rest := [.int 0, .ref ou]) ⟨hx, hb, hml, hown, hts⟩ (x_TM_stack l hlt D cI cZ cJ h sc 0 wo 0 0 0 0 0 0 0 0 hi 0 0 0 te fr va sa re vk vi 0 0 0 0 kk_ wh _ ) (cwV 2 hts (gInV k_227 k_228 k_229 k_192 k_226) rfl rfl rfl (by decide +kernel) ⟨Nat.le_of_ble_eq_true rfl, Nat.le_of_ble_eq_true rfl⟩) (preT_V (va_recv hK hP (q := ("TaleMachine", F_TM, 4)) rfl (q0 := 0) rfl) (hP.sub [0, 1, 2] rfl) (hK.sub [0, 1, 2] rfl) (hD.sub [0, 1, 2] (by decide) rfl) hT (hZ.at hS (va_free (wc := [(h, .inr (7, [.ref sc, .ref wo, .ref hi, .ref te])), (te, .inr (4, [.ref sc, .ref wo, .ref hi, .ref fr, .ref va, .ref sa, .ref re, .int 0, .int (-1)])), (va, .inr (5, [.ref vk, .ref vi, .int 0]))]) hD hS hA [0, 1, 2] rfl))) rfl rfl hl.1 rfl (lv_room (Nat.le_of_ble_eq_true rfl)) d_Law_stack_5 ⟨Nat.le_of_ble_eq_true rfl, Nat.le_of_ble_eq_true rfl⟩) hS (fun q9 _ h9 => va_free (wc := [(h, .inr (7, [.ref sc, .ref wo, .ref hi, .ref te])), (te, .inr (4, [.ref sc, .ref wo, .ref hi, .ref fr, .ref va, .ref sa, .ref re, .int 0, .int (-1)])), (va, .inr (5, [.ref vk, .ref vi, .int 0]))]) hD hS hA [0, 1, 2] rfl q9 h9) (va_free (wc := [(h, .inr (7, [.ref sc, .ref wo, .ref hi, .ref te])), (te, .inr (4, [.ref sc, .ref wo, .ref hi, .ref fr, .ref va, .ref sa, .ref re, .int 0, .int (-1)])), (va, .inr (5, [.ref vk, .ref vi, .int 0]))]) hD hS hA [0, 1, 2] rfl) hown htab (by decide) (by decide) (hts _ k_221) (Tb_cast_N hT) (fun qx H locs hz hk hS => ?_)
  refine W.widen (k := 1) (n := 6) (Nat.le_of_ble_eq_true rfl) (Nat.le_of_ble_eq_true rfl) ?_
  have hP : va_P D cL [] H := va_nil
  have hD : va_D A [] := hD.sub (ws' := []) [] (by decide) rfl
  refine lv_astore (lv' := [(4, .ref qx), (0, .ref h), (1, .int kk_), (2, .int wh), (3, .ref ou)]) hx hb d_Law_stack_13 hl (by decide) rfl (fun ls hl => ?_)
  refine lv_iconst (v := 1) hx hb d_Law_stack_15 (by decide) ?_
  exact end_i hx hb hr hlocks hS (u := ()) (r := 1) (at_end (hP.sub (ws' := []) [] rfl) (hD.sub (ws' := []) [] (by decide) rfl)) (rfl) (Nat.le_of_ble_eq_true rfl) (Nat.le_of_ble_eq_true rfl) d_Law_stack_16

set_option maxHeartbeats 4000000 in
set_option maxRecDepth 100000 in
theorem l_said (l : Launch) (hlt : l.stackTraces = false) (D : va_G) (cI cZ cJ : ClassId) (h sc by_ wo st fl fn li rc kd it pa hi pt sv iz te fr va sa re vk vi sk si rk ri ou : Nat) (kk_ wh : Int32) (sz : Nat)  : Met l y_Law_said (.codeWith y_Law_said method_8_code 5 (some .int) [(0, 10, 13, 21)] :: AW) ({ frames := 8, cells := 1, slots := 6, locals := 144 }) (va_Pc [.ref h, .int kk_, .int wh, .ref ou] (preT_ D [(h, .inr (7, [.ref sc, .ref wo, .ref hi, .ref te])), (te, .inr (4, [.ref sc, .ref wo, .ref hi, .ref fr, .ref va, .ref sa, .ref re, .int 0, .int (-1)])), (sa, .inr (5, [.ref sk, .ref si, .int 0])), (re, .inr (5, [.ref rk, .ref ri, .int 0])), (ou, .inl (cJ, 1, .inr (.inl (fun _ => 0))))] [(cI, .int), (cZ, .boolean), (cJ, .long)] sz)) (va_Qi (fun (r : Int32) (u : Unit) => r = 1) (fun _ t => post_ D (va_A [(h, .inr (7, [.ref sc, .ref wo, .ref hi, .ref te])), (te, .inr (4, [.ref sc, .ref wo, .ref hi, .ref fr, .ref va, .ref sa, .ref re, .int 0, .int (-1)])), (sa, .inr (5, [.ref sk, .ref si, .int 0])), (re, .inr (5, [.ref rk, .ref ri, .int 0])), (ou, .inl (cJ, 1, .inr (.inl (fun _ => 0))))] sz) [] t) (va_A [(h, .inr (7, [.ref sc, .ref wo, .ref hi, .ref te])), (te, .inr (4, [.ref sc, .ref wo, .ref hi, .ref fr, .ref va, .ref sa, .ref re, .int 0, .int (-1)])), (sa, .inr (5, [.ref sk, .ref si, .int 0])), (re, .inr (5, [.ref rk, .ref ri, .int 0])), (ou, .inl (cJ, 1, .inr (.inl (fun _ => 0))))] sz)) 1 6 (va_A [(h, .inr (7, [.ref sc, .ref wo, .ref hi, .ref te])), (te, .inr (4, [.ref sc, .ref wo, .ref hi, .ref fr, .ref va, .ref sa, .ref re, .int 0, .int (-1)])), (sa, .inr (5, [.ref sk, .ref si, .int 0])), (re, .inr (5, [.ref rk, .ref ri, .int 0])), (ou, .inl (cJ, 1, .inr (.inl (fun _ => 0))))] sz) := by
  refine va_MetW (cc := method_8_code) (maxL := 5) (ret := (some .int)) (by decide) rfl ?_
  intro p e s m args below meth c s₁ B hml hv
  obtain ⟨rfl, ⟨rfl, hP, hK, hD0, hT⟩, hZ⟩ := hv
  have hx := B.exec
  have hb := B.bytes
  have hr := B.returns
  have hts0 := atoms_spec (ws := .codeWith y_Law_said method_8_code 5 (some .int) [(0, 10, 13, 21)] :: AW) B.pre
  have hts : ∀ w ∈ AW, w.before [.ref h, .int kk_, .int wh, .ref ou].toArray s = true := fun w h => hts0 w (List.mem_cons_of_mem _ h)
  have htab := vt_table B.named B.method (Stand.of_body B).code (hts0 _ List.mem_cons_self)
  have hown : s.vm.findClass "TaleMachineLaw" = some m.cls := findClass_of_methodNamed B.named
  have hlocks := B.notSynchronized
  have hns := vt_plain hP
  have hD := hD0.self (sz := s.heap.size)
  generalize hAe : va_A [(h, .inr (7, [.ref sc, .ref wo, .ref hi, .ref te])), (te, .inr (4, [.ref sc, .ref wo, .ref hi, .ref fr, .ref va, .ref sa, .ref re, .int 0, .int (-1)])), (sa, .inr (5, [.ref sk, .ref si, .int 0])), (re, .inr (5, [.ref rk, .ref ri, .int 0])), (ou, .inl (cJ, 1, .inr (.inl (fun _ => 0))))] s.heap.size = A at hns hZ hD ⊢
  have hA : ∀ q : Nat, s.heap.size ≤ q → A q := fun q h => by rw [← hAe]; exact Or.inr h
  have hS : va_S A s.heap s.heap [] := va_S.rf
  have hl := lv_entry ([.ref h, .int kk_, .int wh, .ref ou]) (n := 5) (Nat.le_of_ble_eq_true rfl)
  rw [lg_entry_eq]
  generalize (lg_sl ([.ref h, .int kk_, .int wh, .ref ou]) ++ List.replicate (5 - (lg_sl ([.ref h, .int kk_, .int wh, .ref ou])).length) Slot.unset).toArray = ls at hl ⊢
  have hl : lv_has ls 5 [(0, .ref h), (1, .int kk_), (2, .int wh), (3, .ref ou)] := hl
  refine lv_aload_n hx hb d_Law_said_0 rfl (lv_at hl 3 rfl) ?_
  refine lv_iconst (v := 0) hx hb d_Law_said_1 (by decide) ?_
  refine lv_aload_n hx hb d_Law_said_2 rfl (lv_at hl 0 rfl) ?_
  refine lv_iload_n hx hb d_Law_said_3 rfl (lv_at hl 1 rfl) ?_
  refine lv_iload_n hx hb d_Law_said_4 rfl (lv_at hl 2 rfl) ?_
  refine vt_catch (own := "TaleMachineLaw") (vt_runV (C := "TaleMachine") (As := [.int kk_, .int wh]) (rest := [.int 0, .ref ou]) ⟨hx, hb, hml, hown, hts⟩ (x_TM_said l hlt D cI cZ cJ h sc 0 wo 0 0 0 0 0 0 0 0 hi 0 0 0 te fr va sa re 0 0 sk si rk ri kk_ wh _ ) (cwV 2 hts (gInV k_231 k_232 k_233 k_192 k_230) rfl rfl rfl (by decide +kernel) ⟨Nat.le_of_ble_eq_true rfl, Nat.le_of_ble_eq_true rfl⟩) (preT_V (va_recv hK hP (q := ("TaleMachine", F_TM, 4)) rfl (q0 := 0) rfl) (hP.sub [0, 1, 2, 3] rfl) (hK.sub [0, 1, 2] rfl) (hD.sub [0, 1, 2, 3] (by decide) rfl) hT (hZ.at hS (va_free (wc := [(h, .inr (7, [.ref sc, .ref wo, .ref hi, .ref te])), (te, .inr (4, [.ref sc, .ref wo, .ref hi, .ref fr, .ref va, .ref sa, .ref re, .int 0, .int (-1)])), (sa, .inr (5, [.ref sk, .ref si, .int 0])), (re, .inr (5, [.ref rk, .ref ri, .int 0]))]) hD hS hA [0, 1, 2, 3] rfl))) rfl rfl hl.1 rfl (lv_room (Nat.le_of_ble_eq_true rfl)) d_Law_said_5 ⟨Nat.le_of_ble_eq_true rfl, Nat.le_of_ble_eq_true rfl⟩) hS (fun q9 _ h9 => va_free (wc := [(h, .inr (7, [.ref sc, .ref wo, .ref hi, .ref te])), (te, .inr (4, [.ref sc, .ref wo, .ref hi, .ref fr, .ref va, .ref sa, .ref re, .int 0, .int (-1)])), (sa, .inr (5, [.ref sk, .ref si, .int 0])), (re, .inr (5, [.ref rk, .ref ri, .int 0]))]) hD hS hA [0, 1, 2, 3] rfl q9 h9) (va_free (wc := [(h, .inr (7, [.ref sc, .ref wo, .ref hi, .ref te])), (te, .inr (4, [.ref sc, .ref wo, .ref hi, .ref fr, .ref va, .ref sa, .ref re, .int 0, .int (-1)])), (sa, .inr (5, [.ref sk, .ref si, .int 0])), (re, .inr (5, [.ref rk, .ref ri, .int 0]))]) hD hS hA [0, 1, 2, 3] rfl) hown htab (by decide) (by decide) (hts _ k_221) (Tb_cast_N hT) (fun qx H locs hz hk hS => ?_)
  refine W.widen (k := 1) (n := 6) (Nat.le_of_ble_eq_true rfl) (Nat.le_of_ble_eq_true rfl) ?_
  have hP : va_P D cL [] H := va_nil
  have hD : va_D A [] := hD.sub (ws' := []) [] (by decide) rfl
  refine lv_astore (lv' := [(4, .ref qx), (0, .ref h), (1, .int kk_), (2, .int wh), (3, .ref ou)]) hx hb d_Law_said_13 hl (by decide) rfl (fun ls hl => ?_)
  refine lv_iconst (v := 1) hx hb d_Law_said_15 (by decide) ?_
  exact end_i hx hb hr hlocks hS (u := ()) (r := 1) (at_end (hP.sub (ws' := []) [] rfl) (hD.sub (ws' := []) [] (by decide) rfl)) (rfl) (Nat.le_of_ble_eq_true rfl) (Nat.le_of_ble_eq_true rfl) d_Law_said_16

set_option maxHeartbeats 4000000 in
set_option maxRecDepth 100000 in
theorem l_has (l : Launch) (hlt : l.stackTraces = false) (D : va_G) (cI cZ cJ : ClassId) (h sc by_ wo st fl fn li rc kd it pa hi pt sv iz te fr va sa re vk vi sk si rk ri ou : Nat) (oo pp wh : Int32) (sz : Nat)  : Met l y_Law_has (.codeWith y_Law_has method_9_code 6 (some .int) [(0, 12, 15, 21)] :: AW) ({ frames := 7, cells := 1, slots := 6, locals := 124 }) (va_Pc [.ref h, .int oo, .int pp, .int wh, .ref ou] (preT_ D [(h, .inr (7, [.ref sc, .ref wo, .ref hi, .ref te])), (wo, .inr (6, [.ref st, .int 0, .ref fl, .ref fn, .ref li, .int 0, .ref rc, .int 0, .int 0])), (st, .inr (3, [.ref kd, .ref it, .ref pa])), (pa, .inl (cI, 16, .inl (fun _ => -1))), (ou, .inl (cJ, 1, .inr (.inl (fun _ => 0))))] [(cI, .int), (cZ, .boolean), (cJ, .long)] sz)) (va_Qi (fun (r : Int32) (u : Unit) => r = 1) (fun _ t => post_ D (va_A [(h, .inr (7, [.ref sc, .ref wo, .ref hi, .ref te])), (wo, .inr (6, [.ref st, .int 0, .ref fl, .ref fn, .ref li, .int 0, .ref rc, .int 0, .int 0])), (st, .inr (3, [.ref kd, .ref it, .ref pa])), (pa, .inl (cI, 16, .inl (fun _ => -1))), (ou, .inl (cJ, 1, .inr (.inl (fun _ => 0))))] sz) [] t) (va_A [(h, .inr (7, [.ref sc, .ref wo, .ref hi, .ref te])), (wo, .inr (6, [.ref st, .int 0, .ref fl, .ref fn, .ref li, .int 0, .ref rc, .int 0, .int 0])), (st, .inr (3, [.ref kd, .ref it, .ref pa])), (pa, .inl (cI, 16, .inl (fun _ => -1))), (ou, .inl (cJ, 1, .inr (.inl (fun _ => 0))))] sz)) 1 6 (va_A [(h, .inr (7, [.ref sc, .ref wo, .ref hi, .ref te])), (wo, .inr (6, [.ref st, .int 0, .ref fl, .ref fn, .ref li, .int 0, .ref rc, .int 0, .int 0])), (st, .inr (3, [.ref kd, .ref it, .ref pa])), (pa, .inl (cI, 16, .inl (fun _ => -1))), (ou, .inl (cJ, 1, .inr (.inl (fun _ => 0))))] sz) := by
  refine va_MetW (cc := method_9_code) (maxL := 6) (ret := (some .int)) (by decide) rfl ?_
  intro p e s m args below meth c s₁ B hml hv
  obtain ⟨rfl, ⟨rfl, hP, hK, hD0, hT⟩, hZ⟩ := hv
  have hx := B.exec
  have hb := B.bytes
  have hr := B.returns
  have hts0 := atoms_spec (ws := .codeWith y_Law_has method_9_code 6 (some .int) [(0, 12, 15, 21)] :: AW) B.pre
  have hts : ∀ w ∈ AW, w.before [.ref h, .int oo, .int pp, .int wh, .ref ou].toArray s = true := fun w h => hts0 w (List.mem_cons_of_mem _ h)
  have htab := vt_table B.named B.method (Stand.of_body B).code (hts0 _ List.mem_cons_self)
  have hown : s.vm.findClass "TaleMachineLaw" = some m.cls := findClass_of_methodNamed B.named
  have hlocks := B.notSynchronized
  have hns := vt_plain hP
  have hD := hD0.self (sz := s.heap.size)
  generalize hAe : va_A [(h, .inr (7, [.ref sc, .ref wo, .ref hi, .ref te])), (wo, .inr (6, [.ref st, .int 0, .ref fl, .ref fn, .ref li, .int 0, .ref rc, .int 0, .int 0])), (st, .inr (3, [.ref kd, .ref it, .ref pa])), (pa, .inl (cI, 16, .inl (fun _ => -1))), (ou, .inl (cJ, 1, .inr (.inl (fun _ => 0))))] s.heap.size = A at hns hZ hD ⊢
  have hA : ∀ q : Nat, s.heap.size ≤ q → A q := fun q h => by rw [← hAe]; exact Or.inr h
  have hS : va_S A s.heap s.heap [] := va_S.rf
  have hl := lv_entry ([.ref h, .int oo, .int pp, .int wh, .ref ou]) (n := 6) (Nat.le_of_ble_eq_true rfl)
  rw [lg_entry_eq]
  generalize (lg_sl ([.ref h, .int oo, .int pp, .int wh, .ref ou]) ++ List.replicate (6 - (lg_sl ([.ref h, .int oo, .int pp, .int wh, .ref ou])).length) Slot.unset).toArray = ls at hl ⊢
  have hl : lv_has ls 6 [(0, .ref h), (1, .int oo), (2, .int pp), (3, .int wh), (4, .ref ou)] := hl
  refine lv_aload hx hb d_Law_has_0 (lv_at hl 4 rfl) ?_
  refine lv_iconst (v := 0) hx hb d_Law_has_2 (by decide) ?_
  refine lv_aload_n hx hb d_Law_has_3 rfl (lv_at hl 0 rfl) ?_
  refine lv_iload_n hx hb d_Law_has_4 rfl (lv_at hl 1 rfl) ?_
  refine lv_iload_n hx hb d_Law_has_5 rfl (lv_at hl 2 rfl) ?_
  refine lv_iload_n hx hb d_Law_has_6 rfl (lv_at hl 3 rfl) ?_
  refine vt_catch (own := "TaleMachineLaw") (vt_runV (C := "TaleMachine") (As := [.int oo, .int pp, .int wh]) (rest := [.int 0, .ref ou]) ⟨hx, hb, hml, hown, hts⟩ (x_TM_has l hlt D cI cZ cJ h sc 0 wo st fl fn li rc kd it pa hi 0 0 0 te 0 0 0 0 0 0 0 0 0 0 oo pp wh _ ) (cwV 3 hts (gInV k_235 k_236 k_237 k_192 k_234) rfl rfl rfl (by decide +kernel) ⟨Nat.le_of_ble_eq_true rfl, Nat.le_of_ble_eq_true rfl⟩) (preT_V (va_recv hK hP (q := ("TaleMachine", F_TM, 4)) rfl (q0 := 0) rfl) (hP.sub [0, 1, 2, 3] rfl) (hK.sub [0, 1, 2] rfl) (hD.sub [0, 1, 2, 3] (by decide) rfl) hT (hZ.at hS (va_free (wc := [(h, .inr (7, [.ref sc, .ref wo, .ref hi, .ref te])), (wo, .inr (6, [.ref st, .int 0, .ref fl, .ref fn, .ref li, .int 0, .ref rc, .int 0, .int 0])), (st, .inr (3, [.ref kd, .ref it, .ref pa])), (pa, .inl (cI, 16, .inl (fun _ => -1)))]) hD hS hA [0, 1, 2, 3] rfl))) rfl rfl hl.1 rfl (lv_room (Nat.le_of_ble_eq_true rfl)) d_Law_has_7 ⟨Nat.le_of_ble_eq_true rfl, Nat.le_of_ble_eq_true rfl⟩) hS (fun q9 _ h9 => va_free (wc := [(h, .inr (7, [.ref sc, .ref wo, .ref hi, .ref te])), (wo, .inr (6, [.ref st, .int 0, .ref fl, .ref fn, .ref li, .int 0, .ref rc, .int 0, .int 0])), (st, .inr (3, [.ref kd, .ref it, .ref pa])), (pa, .inl (cI, 16, .inl (fun _ => -1)))]) hD hS hA [0, 1, 2, 3] rfl q9 h9) (va_free (wc := [(h, .inr (7, [.ref sc, .ref wo, .ref hi, .ref te])), (wo, .inr (6, [.ref st, .int 0, .ref fl, .ref fn, .ref li, .int 0, .ref rc, .int 0, .int 0])), (st, .inr (3, [.ref kd, .ref it, .ref pa])), (pa, .inl (cI, 16, .inl (fun _ => -1)))]) hD hS hA [0, 1, 2, 3] rfl) hown htab (by decide) (by decide) (hts _ k_221) (Tb_cast_N hT) (fun qx H locs hz hk hS => ?_)
  refine W.widen (k := 1) (n := 6) (Nat.le_of_ble_eq_true rfl) (Nat.le_of_ble_eq_true rfl) ?_
  have hP : va_P D cL [] H := va_nil
  have hD : va_D A [] := hD.sub (ws' := []) [] (by decide) rfl
  refine lv_astore (lv' := [(5, .ref qx), (0, .ref h), (1, .int oo), (2, .int pp), (3, .int wh), (4, .ref ou)]) hx hb d_Law_has_15 hl (by decide) rfl (fun ls hl => ?_)
  refine lv_iconst (v := 1) hx hb d_Law_has_17 (by decide) ?_
  exact end_i hx hb hr hlocks hS (u := ()) (r := 1) (at_end (hP.sub (ws' := []) [] rfl) (hD.sub (ws' := []) [] (by decide) rfl)) (rfl) (Nat.le_of_ble_eq_true rfl) (Nat.le_of_ble_eq_true rfl) d_Law_has_18

set_option maxHeartbeats 4000000 in
set_option maxRecDepth 100000 in
theorem l_show_0 (l : Launch) (D : va_G) (cI cZ cJ : ClassId) (h sc by_ wo st fl fn li rc kd it pa hi pt sv iz te fr va sa re vk vi sk si rk ri ou : Nat) (sz : Nat)  : Met l y_Law_show (.codeWith y_Law_show method_7_code 4 (some .int) [(0, 9, 12, 21)] :: AW) ({ frames := 1, cells := 0, slots := 0, locals := 21 }) (va_Pc [.ref h, .int 0, .ref ou] (pre_ D [(h, .inr (7, [.ref sc, .ref wo, .ref hi, .ref te])), (wo, .inr (6, [.ref st, .int 0, .ref fl, .ref fn, .ref li, .int 0, .ref rc, .int 0, .int 0])), (st, .inr (3, [.ref kd, .ref it, .ref pa])), (pa, .inl (cI, 16, .inl (fun _ => -1))), (hi, .inr (1, [.ref pt, .ref sv, .ref iz, .int 0])), (te, .inr (4, [.ref sc, .ref wo, .ref hi, .ref fr, .ref va, .ref sa, .ref re, .int 0, .int (-1)])), (sa, .inr (5, [.ref sk, .ref si, .int 0])), (ou, .inl (cJ, 1, .inr (.inl (fun _ => 0))))] [(cI, .int), (cZ, .boolean), (cJ, .long)] sz)) (va_Qi (fun (r : Int32) (u : Unit) => r = 0) (fun _ t => post_ D (va_A [(h, .inr (7, [.ref sc, .ref wo, .ref hi, .ref te])), (wo, .inr (6, [.ref st, .int 0, .ref fl, .ref fn, .ref li, .int 0, .ref rc, .int 0, .int 0])), (st, .inr (3, [.ref kd, .ref it, .ref pa])), (pa, .inl (cI, 16, .inl (fun _ => -1))), (hi, .inr (1, [.ref pt, .ref sv, .ref iz, .int 0])), (te, .inr (4, [.ref sc, .ref wo, .ref hi, .ref fr, .ref va, .ref sa, .ref re, .int 0, .int (-1)])), (sa, .inr (5, [.ref sk, .ref si, .int 0])), (ou, .inl (cJ, 1, .inr (.inl (fun _ => 0))))] sz) [(ou, .inl (cJ, 1, .inr (.inl (vp_updL (fun _ => 0) (0 : Int32).toNatClampNeg 0))))] t) (va_A [(h, .inr (7, [.ref sc, .ref wo, .ref hi, .ref te])), (wo, .inr (6, [.ref st, .int 0, .ref fl, .ref fn, .ref li, .int 0, .ref rc, .int 0, .int 0])), (st, .inr (3, [.ref kd, .ref it, .ref pa])), (pa, .inl (cI, 16, .inl (fun _ => -1))), (hi, .inr (1, [.ref pt, .ref sv, .ref iz, .int 0])), (te, .inr (4, [.ref sc, .ref wo, .ref hi, .ref fr, .ref va, .ref sa, .ref re, .int 0, .int (-1)])), (sa, .inr (5, [.ref sk, .ref si, .int 0])), (ou, .inl (cJ, 1, .inr (.inl (fun _ => 0))))] sz)) 0 0 (va_A [(h, .inr (7, [.ref sc, .ref wo, .ref hi, .ref te])), (wo, .inr (6, [.ref st, .int 0, .ref fl, .ref fn, .ref li, .int 0, .ref rc, .int 0, .int 0])), (st, .inr (3, [.ref kd, .ref it, .ref pa])), (pa, .inl (cI, 16, .inl (fun _ => -1))), (hi, .inr (1, [.ref pt, .ref sv, .ref iz, .int 0])), (te, .inr (4, [.ref sc, .ref wo, .ref hi, .ref fr, .ref va, .ref sa, .ref re, .int 0, .int (-1)])), (sa, .inr (5, [.ref sk, .ref si, .int 0])), (ou, .inl (cJ, 1, .inr (.inl (fun _ => 0))))] sz) := by
  refine va_MetW (cc := method_7_code) (maxL := 4) (ret := (some .int)) (by decide) rfl ?_
  intro p e s m args below meth c s₁ B hml hv
  obtain ⟨rfl, rfl, hP, hK, hD0, hT⟩ := hv
  have hx := B.exec
  have hb := B.bytes
  have hr := B.returns
  have hts0 := atoms_spec (ws := .codeWith y_Law_show method_7_code 4 (some .int) [(0, 9, 12, 21)] :: AW) B.pre
  have hts : ∀ w ∈ AW, w.before [.ref h, .int 0, .ref ou].toArray s = true := fun w h => hts0 w (List.mem_cons_of_mem _ h)
  have htab := vt_table B.named B.method (Stand.of_body B).code (hts0 _ List.mem_cons_self)
  have hown : s.vm.findClass "TaleMachineLaw" = some m.cls := findClass_of_methodNamed B.named
  have hlocks := B.notSynchronized
  have hD := hD0.self (sz := s.heap.size)
  generalize hAe : va_A [(h, .inr (7, [.ref sc, .ref wo, .ref hi, .ref te])), (wo, .inr (6, [.ref st, .int 0, .ref fl, .ref fn, .ref li, .int 0, .ref rc, .int 0, .int 0])), (st, .inr (3, [.ref kd, .ref it, .ref pa])), (pa, .inl (cI, 16, .inl (fun _ => -1))), (hi, .inr (1, [.ref pt, .ref sv, .ref iz, .int 0])), (te, .inr (4, [.ref sc, .ref wo, .ref hi, .ref fr, .ref va, .ref sa, .ref re, .int 0, .int (-1)])), (sa, .inr (5, [.ref sk, .ref si, .int 0])), (ou, .inl (cJ, 1, .inr (.inl (fun _ => 0))))] s.heap.size = A at hD ⊢
  have hA : ∀ q : Nat, s.heap.size ≤ q → A q := fun q h => by rw [← hAe]; exact Or.inr h
  have hS : va_S A s.heap s.heap [] := va_S.rf
  have hl := lv_entry ([.ref h, .int 0, .ref ou]) (n := 4) (Nat.le_of_ble_eq_true rfl)
  rw [lg_entry_eq]
  generalize (lg_sl ([.ref h, .int 0, .ref ou]) ++ List.replicate (4 - (lg_sl ([.ref h, .int 0, .ref ou])).length) Slot.unset).toArray = ls at hl ⊢
  have hl : lv_has ls 4 [(0, .ref h), (1, .int 0), (2, .ref ou)] := hl
  refine lv_aload_n hx hb d_Law_show_0 rfl (lv_at hl 2 rfl) ?_
  refine lv_iconst (v := 0) hx hb d_Law_show_1 (by decide) ?_
  refine lv_aload_n hx hb d_Law_show_2 rfl (lv_at hl 0 rfl) ?_
  refine lv_iload_n hx hb d_Law_show_3 rfl (lv_at hl 1 rfl) ?_
  refine mv_i (va_runV (C := "TaleMachine") (As := [.int 0]) (rest := [.int 0, .ref ou]) ⟨hx, hb, hml, hown, hts⟩ (c_TM_show_0 l D cI cZ cJ h sc 0 wo st fl fn li rc kd it pa hi pt sv iz te fr va sa re 0 0 sk si 0 0 _ ) (cwV 1 hts (gInV k_239 k_240 k_241 k_192 k_238) rfl rfl rfl (by decide +kernel) ⟨Nat.le_of_ble_eq_true rfl, Nat.le_of_ble_eq_true rfl⟩) (pre_V (va_recv hK hP (q := ("TaleMachine", F_TM, 4)) rfl (q0 := 0) rfl) (hP.sub [0, 1, 2, 3, 4, 5, 6] rfl) (hK.sub [0, 1, 2] rfl) (hD.sub [0, 1, 2, 3, 4, 5, 6] (by decide) rfl) hT) rfl rfl hl.1 rfl (lv_room (Nat.le_of_ble_eq_true rfl)) d_Law_show_4 ⟨Nat.le_of_ble_eq_true rfl, Nat.le_of_ble_eq_true rfl⟩) hP hD hS hA [0, 1, 2, 3, 4, 5, 6] [7] rfl rfl (by decide) (by decide) (wr := [(ou, .inl (cJ, 1, .inr (.inl (fun _ => 0))))]) (wn := fun _ => []) (fun _ _ h9 => h9) (fun r1 _ H locs hp2 hP hD hS => ?_)
  have hP : va_P D cL [(ou, .inl (cJ, 1, .inr (.inl (fun _ => 0))))] H := hP
  have hD : va_D A [(ou, .inl (cJ, 1, .inr (.inl (fun _ => 0))))] := hD
  obtain rfl : r1 = 0 := hp2
  refine lv_i2l (v := 0) hx hb d_Law_show_7 (by decide) ?_
  refine va_last hx hb hK hP hD hS 0 2 rfl rfl (i := 0) (x := 0) (in_c (by decide)) d_Law_show_8 (fun H locs hP hD hS => ?_)
  have hP : va_P D cL [(ou, .inl (cJ, 1, .inr (.inl (vp_updL (fun _ => 0) (0 : Int32).toNatClampNeg 0))))] H := hP
  have hD : va_D A [(ou, .inl (cJ, 1, .inr (.inl (vp_updL (fun _ => 0) (0 : Int32).toNatClampNeg 0))))] := hD
  refine lv_goto hx hb d_Law_show_9 (tgt := 15) (by decide) ?_
  refine lv_iconst (v := 0) hx hb d_Law_show_15 (by decide) ?_
  exact end_i hx hb hr hlocks hS (u := ()) (r := 0) (at_end (hP.sub (ws' := [(ou, .inl (cJ, 1, .inr (.inl (vp_updL (fun _ => 0) (0 : Int32).toNatClampNeg 0))))]) [0] rfl) (hD.sub (ws' := [(ou, .inl (cJ, 1, .inr (.inl (vp_updL (fun _ => 0) (0 : Int32).toNatClampNeg 0))))]) [0] (by decide) rfl)) (rfl) (Nat.le_of_ble_eq_true rfl) (Nat.le_of_ble_eq_true rfl) d_Law_show_16

set_option maxHeartbeats 4000000 in
set_option maxRecDepth 100000 in
theorem l_show_3 (l : Launch) (D : va_G) (cI cZ cJ : ClassId) (h sc by_ wo st fl fn li rc kd it pa hi pt sv iz te fr va sa re vk vi sk si rk ri ou : Nat) (sz : Nat)  : Met l y_Law_show (.codeWith y_Law_show method_7_code 4 (some .int) [(0, 9, 12, 21)] :: AW) ({ frames := 1, cells := 0, slots := 0, locals := 21 }) (va_Pc [.ref h, .int 3, .ref ou] (pre_ D [(h, .inr (7, [.ref sc, .ref wo, .ref hi, .ref te])), (wo, .inr (6, [.ref st, .int 0, .ref fl, .ref fn, .ref li, .int 0, .ref rc, .int 0, .int 0])), (st, .inr (3, [.ref kd, .ref it, .ref pa])), (pa, .inl (cI, 16, .inl (fun _ => -1))), (hi, .inr (1, [.ref pt, .ref sv, .ref iz, .int 0])), (te, .inr (4, [.ref sc, .ref wo, .ref hi, .ref fr, .ref va, .ref sa, .ref re, .int 0, .int (-1)])), (sa, .inr (5, [.ref sk, .ref si, .int 0])), (ou, .inl (cJ, 1, .inr (.inl (fun _ => 0))))] [(cI, .int), (cZ, .boolean), (cJ, .long)] sz)) (va_Qi (fun (r : Int32) (u : Unit) => r = 0) (fun _ t => post_ D (va_A [(h, .inr (7, [.ref sc, .ref wo, .ref hi, .ref te])), (wo, .inr (6, [.ref st, .int 0, .ref fl, .ref fn, .ref li, .int 0, .ref rc, .int 0, .int 0])), (st, .inr (3, [.ref kd, .ref it, .ref pa])), (pa, .inl (cI, 16, .inl (fun _ => -1))), (hi, .inr (1, [.ref pt, .ref sv, .ref iz, .int 0])), (te, .inr (4, [.ref sc, .ref wo, .ref hi, .ref fr, .ref va, .ref sa, .ref re, .int 0, .int (-1)])), (sa, .inr (5, [.ref sk, .ref si, .int 0])), (ou, .inl (cJ, 1, .inr (.inl (fun _ => 0))))] sz) [(ou, .inl (cJ, 1, .inr (.inl (vp_updL (fun _ => 0) (0 : Int32).toNatClampNeg 0))))] t) (va_A [(h, .inr (7, [.ref sc, .ref wo, .ref hi, .ref te])), (wo, .inr (6, [.ref st, .int 0, .ref fl, .ref fn, .ref li, .int 0, .ref rc, .int 0, .int 0])), (st, .inr (3, [.ref kd, .ref it, .ref pa])), (pa, .inl (cI, 16, .inl (fun _ => -1))), (hi, .inr (1, [.ref pt, .ref sv, .ref iz, .int 0])), (te, .inr (4, [.ref sc, .ref wo, .ref hi, .ref fr, .ref va, .ref sa, .ref re, .int 0, .int (-1)])), (sa, .inr (5, [.ref sk, .ref si, .int 0])), (ou, .inl (cJ, 1, .inr (.inl (fun _ => 0))))] sz)) 0 0 (va_A [(h, .inr (7, [.ref sc, .ref wo, .ref hi, .ref te])), (wo, .inr (6, [.ref st, .int 0, .ref fl, .ref fn, .ref li, .int 0, .ref rc, .int 0, .int 0])), (st, .inr (3, [.ref kd, .ref it, .ref pa])), (pa, .inl (cI, 16, .inl (fun _ => -1))), (hi, .inr (1, [.ref pt, .ref sv, .ref iz, .int 0])), (te, .inr (4, [.ref sc, .ref wo, .ref hi, .ref fr, .ref va, .ref sa, .ref re, .int 0, .int (-1)])), (sa, .inr (5, [.ref sk, .ref si, .int 0])), (ou, .inl (cJ, 1, .inr (.inl (fun _ => 0))))] sz) := by
  refine va_MetW (cc := method_7_code) (maxL := 4) (ret := (some .int)) (by decide) rfl ?_
  intro p e s m args below meth c s₁ B hml hv
  obtain ⟨rfl, rfl, hP, hK, hD0, hT⟩ := hv
  have hx := B.exec
  have hb := B.bytes
  have hr := B.returns
  have hts0 := atoms_spec (ws := .codeWith y_Law_show method_7_code 4 (some .int) [(0, 9, 12, 21)] :: AW) B.pre
  have hts : ∀ w ∈ AW, w.before [.ref h, .int 3, .ref ou].toArray s = true := fun w h => hts0 w (List.mem_cons_of_mem _ h)
  have htab := vt_table B.named B.method (Stand.of_body B).code (hts0 _ List.mem_cons_self)
  have hown : s.vm.findClass "TaleMachineLaw" = some m.cls := findClass_of_methodNamed B.named
  have hlocks := B.notSynchronized
  have hD := hD0.self (sz := s.heap.size)
  generalize hAe : va_A [(h, .inr (7, [.ref sc, .ref wo, .ref hi, .ref te])), (wo, .inr (6, [.ref st, .int 0, .ref fl, .ref fn, .ref li, .int 0, .ref rc, .int 0, .int 0])), (st, .inr (3, [.ref kd, .ref it, .ref pa])), (pa, .inl (cI, 16, .inl (fun _ => -1))), (hi, .inr (1, [.ref pt, .ref sv, .ref iz, .int 0])), (te, .inr (4, [.ref sc, .ref wo, .ref hi, .ref fr, .ref va, .ref sa, .ref re, .int 0, .int (-1)])), (sa, .inr (5, [.ref sk, .ref si, .int 0])), (ou, .inl (cJ, 1, .inr (.inl (fun _ => 0))))] s.heap.size = A at hD ⊢
  have hA : ∀ q : Nat, s.heap.size ≤ q → A q := fun q h => by rw [← hAe]; exact Or.inr h
  have hS : va_S A s.heap s.heap [] := va_S.rf
  have hl := lv_entry ([.ref h, .int 3, .ref ou]) (n := 4) (Nat.le_of_ble_eq_true rfl)
  rw [lg_entry_eq]
  generalize (lg_sl ([.ref h, .int 3, .ref ou]) ++ List.replicate (4 - (lg_sl ([.ref h, .int 3, .ref ou])).length) Slot.unset).toArray = ls at hl ⊢
  have hl : lv_has ls 4 [(0, .ref h), (1, .int 3), (2, .ref ou)] := hl
  refine lv_aload_n hx hb d_Law_show_0 rfl (lv_at hl 2 rfl) ?_
  refine lv_iconst (v := 0) hx hb d_Law_show_1 (by decide) ?_
  refine lv_aload_n hx hb d_Law_show_2 rfl (lv_at hl 0 rfl) ?_
  refine lv_iload_n hx hb d_Law_show_3 rfl (lv_at hl 1 rfl) ?_
  refine mv_i (va_runV (C := "TaleMachine") (As := [.int 3]) (rest := [.int 0, .ref ou]) ⟨hx, hb, hml, hown, hts⟩ (c_TM_show_3 l D cI cZ cJ h sc 0 wo st fl fn li rc kd it pa hi pt sv iz te fr va sa re 0 0 sk si 0 0 _ ) (cwV 1 hts (gInV k_239 k_240 k_241 k_192 k_238) rfl rfl rfl (by decide +kernel) ⟨Nat.le_of_ble_eq_true rfl, Nat.le_of_ble_eq_true rfl⟩) (pre_V (va_recv hK hP (q := ("TaleMachine", F_TM, 4)) rfl (q0 := 0) rfl) (hP.sub [0, 1, 2, 3, 4, 5, 6] rfl) (hK.sub [0, 1, 2] rfl) (hD.sub [0, 1, 2, 3, 4, 5, 6] (by decide) rfl) hT) rfl rfl hl.1 rfl (lv_room (Nat.le_of_ble_eq_true rfl)) d_Law_show_4 ⟨Nat.le_of_ble_eq_true rfl, Nat.le_of_ble_eq_true rfl⟩) hP hD hS hA [0, 1, 2, 3, 4, 5, 6] [7] rfl rfl (by decide) (by decide) (wr := [(ou, .inl (cJ, 1, .inr (.inl (fun _ => 0))))]) (wn := fun _ => []) (fun _ _ h9 => h9) (fun r1 _ H locs hp2 hP hD hS => ?_)
  have hP : va_P D cL [(ou, .inl (cJ, 1, .inr (.inl (fun _ => 0))))] H := hP
  have hD : va_D A [(ou, .inl (cJ, 1, .inr (.inl (fun _ => 0))))] := hD
  obtain rfl : r1 = 0 := hp2
  refine lv_i2l (v := 0) hx hb d_Law_show_7 (by decide) ?_
  refine va_last hx hb hK hP hD hS 0 2 rfl rfl (i := 0) (x := 0) (in_c (by decide)) d_Law_show_8 (fun H locs hP hD hS => ?_)
  have hP : va_P D cL [(ou, .inl (cJ, 1, .inr (.inl (vp_updL (fun _ => 0) (0 : Int32).toNatClampNeg 0))))] H := hP
  have hD : va_D A [(ou, .inl (cJ, 1, .inr (.inl (vp_updL (fun _ => 0) (0 : Int32).toNatClampNeg 0))))] := hD
  refine lv_goto hx hb d_Law_show_9 (tgt := 15) (by decide) ?_
  refine lv_iconst (v := 0) hx hb d_Law_show_15 (by decide) ?_
  exact end_i hx hb hr hlocks hS (u := ()) (r := 0) (at_end (hP.sub (ws' := [(ou, .inl (cJ, 1, .inr (.inl (vp_updL (fun _ => 0) (0 : Int32).toNatClampNeg 0))))]) [0] rfl) (hD.sub (ws' := [(ou, .inl (cJ, 1, .inr (.inl (vp_updL (fun _ => 0) (0 : Int32).toNatClampNeg 0))))]) [0] (by decide) rfl)) (rfl) (Nat.le_of_ble_eq_true rfl) (Nat.le_of_ble_eq_true rfl) d_Law_show_16

set_option maxHeartbeats 4000000 in
set_option maxRecDepth 100000 in
theorem l_show_4 (l : Launch) (D : va_G) (cI cZ cJ : ClassId) (h sc by_ wo st fl fn li rc kd it pa hi pt sv iz te fr va sa re vk vi sk si rk ri ou : Nat) (sz : Nat)  : Met l y_Law_show (.codeWith y_Law_show method_7_code 4 (some .int) [(0, 9, 12, 21)] :: AW) ({ frames := 2, cells := 0, slots := 0, locals := 43 }) (va_Pc [.ref h, .int 4, .ref ou] (pre_ D [(h, .inr (7, [.ref sc, .ref wo, .ref hi, .ref te])), (wo, .inr (6, [.ref st, .int 0, .ref fl, .ref fn, .ref li, .int 0, .ref rc, .int 0, .int 0])), (st, .inr (3, [.ref kd, .ref it, .ref pa])), (pa, .inl (cI, 16, .inl (fun _ => -1))), (hi, .inr (1, [.ref pt, .ref sv, .ref iz, .int 0])), (te, .inr (4, [.ref sc, .ref wo, .ref hi, .ref fr, .ref va, .ref sa, .ref re, .int 0, .int (-1)])), (sa, .inr (5, [.ref sk, .ref si, .int 0])), (ou, .inl (cJ, 1, .inr (.inl (fun _ => 0))))] [(cI, .int), (cZ, .boolean), (cJ, .long)] sz)) (va_Qi (fun (r : Int32) (u : Unit) => r = 0) (fun _ t => post_ D (va_A [(h, .inr (7, [.ref sc, .ref wo, .ref hi, .ref te])), (wo, .inr (6, [.ref st, .int 0, .ref fl, .ref fn, .ref li, .int 0, .ref rc, .int 0, .int 0])), (st, .inr (3, [.ref kd, .ref it, .ref pa])), (pa, .inl (cI, 16, .inl (fun _ => -1))), (hi, .inr (1, [.ref pt, .ref sv, .ref iz, .int 0])), (te, .inr (4, [.ref sc, .ref wo, .ref hi, .ref fr, .ref va, .ref sa, .ref re, .int 0, .int (-1)])), (sa, .inr (5, [.ref sk, .ref si, .int 0])), (ou, .inl (cJ, 1, .inr (.inl (fun _ => 0))))] sz) [(ou, .inl (cJ, 1, .inr (.inl (vp_updL (fun _ => 0) (0 : Int32).toNatClampNeg 0))))] t) (va_A [(h, .inr (7, [.ref sc, .ref wo, .ref hi, .ref te])), (wo, .inr (6, [.ref st, .int 0, .ref fl, .ref fn, .ref li, .int 0, .ref rc, .int 0, .int 0])), (st, .inr (3, [.ref kd, .ref it, .ref pa])), (pa, .inl (cI, 16, .inl (fun _ => -1))), (hi, .inr (1, [.ref pt, .ref sv, .ref iz, .int 0])), (te, .inr (4, [.ref sc, .ref wo, .ref hi, .ref fr, .ref va, .ref sa, .ref re, .int 0, .int (-1)])), (sa, .inr (5, [.ref sk, .ref si, .int 0])), (ou, .inl (cJ, 1, .inr (.inl (fun _ => 0))))] sz)) 0 0 (va_A [(h, .inr (7, [.ref sc, .ref wo, .ref hi, .ref te])), (wo, .inr (6, [.ref st, .int 0, .ref fl, .ref fn, .ref li, .int 0, .ref rc, .int 0, .int 0])), (st, .inr (3, [.ref kd, .ref it, .ref pa])), (pa, .inl (cI, 16, .inl (fun _ => -1))), (hi, .inr (1, [.ref pt, .ref sv, .ref iz, .int 0])), (te, .inr (4, [.ref sc, .ref wo, .ref hi, .ref fr, .ref va, .ref sa, .ref re, .int 0, .int (-1)])), (sa, .inr (5, [.ref sk, .ref si, .int 0])), (ou, .inl (cJ, 1, .inr (.inl (fun _ => 0))))] sz) := by
  refine va_MetW (cc := method_7_code) (maxL := 4) (ret := (some .int)) (by decide) rfl ?_
  intro p e s m args below meth c s₁ B hml hv
  obtain ⟨rfl, rfl, hP, hK, hD0, hT⟩ := hv
  have hx := B.exec
  have hb := B.bytes
  have hr := B.returns
  have hts0 := atoms_spec (ws := .codeWith y_Law_show method_7_code 4 (some .int) [(0, 9, 12, 21)] :: AW) B.pre
  have hts : ∀ w ∈ AW, w.before [.ref h, .int 4, .ref ou].toArray s = true := fun w h => hts0 w (List.mem_cons_of_mem _ h)
  have htab := vt_table B.named B.method (Stand.of_body B).code (hts0 _ List.mem_cons_self)
  have hown : s.vm.findClass "TaleMachineLaw" = some m.cls := findClass_of_methodNamed B.named
  have hlocks := B.notSynchronized
  have hD := hD0.self (sz := s.heap.size)
  generalize hAe : va_A [(h, .inr (7, [.ref sc, .ref wo, .ref hi, .ref te])), (wo, .inr (6, [.ref st, .int 0, .ref fl, .ref fn, .ref li, .int 0, .ref rc, .int 0, .int 0])), (st, .inr (3, [.ref kd, .ref it, .ref pa])), (pa, .inl (cI, 16, .inl (fun _ => -1))), (hi, .inr (1, [.ref pt, .ref sv, .ref iz, .int 0])), (te, .inr (4, [.ref sc, .ref wo, .ref hi, .ref fr, .ref va, .ref sa, .ref re, .int 0, .int (-1)])), (sa, .inr (5, [.ref sk, .ref si, .int 0])), (ou, .inl (cJ, 1, .inr (.inl (fun _ => 0))))] s.heap.size = A at hD ⊢
  have hA : ∀ q : Nat, s.heap.size ≤ q → A q := fun q h => by rw [← hAe]; exact Or.inr h
  have hS : va_S A s.heap s.heap [] := va_S.rf
  have hl := lv_entry ([.ref h, .int 4, .ref ou]) (n := 4) (Nat.le_of_ble_eq_true rfl)
  rw [lg_entry_eq]
  generalize (lg_sl ([.ref h, .int 4, .ref ou]) ++ List.replicate (4 - (lg_sl ([.ref h, .int 4, .ref ou])).length) Slot.unset).toArray = ls at hl ⊢
  have hl : lv_has ls 4 [(0, .ref h), (1, .int 4), (2, .ref ou)] := hl
  refine lv_aload_n hx hb d_Law_show_0 rfl (lv_at hl 2 rfl) ?_
  refine lv_iconst (v := 0) hx hb d_Law_show_1 (by decide) ?_
  refine lv_aload_n hx hb d_Law_show_2 rfl (lv_at hl 0 rfl) ?_
  refine lv_iload_n hx hb d_Law_show_3 rfl (lv_at hl 1 rfl) ?_
  refine mv_i (va_runV (C := "TaleMachine") (As := [.int 4]) (rest := [.int 0, .ref ou]) ⟨hx, hb, hml, hown, hts⟩ (c_TM_show_4 l D cI cZ cJ h sc 0 wo st fl fn li rc kd it pa hi pt sv iz te fr va sa re 0 0 sk si 0 0 _ ) (cwV 1 hts (gInV k_239 k_240 k_241 k_192 k_238) rfl rfl rfl (by decide +kernel) ⟨Nat.le_of_ble_eq_true rfl, Nat.le_of_ble_eq_true rfl⟩) (pre_V (va_recv hK hP (q := ("TaleMachine", F_TM, 4)) rfl (q0 := 0) rfl) (hP.sub [0, 1, 2, 3, 4, 5, 6] rfl) (hK.sub [0, 1, 2] rfl) (hD.sub [0, 1, 2, 3, 4, 5, 6] (by decide) rfl) hT) rfl rfl hl.1 rfl (lv_room (Nat.le_of_ble_eq_true rfl)) d_Law_show_4 ⟨Nat.le_of_ble_eq_true rfl, Nat.le_of_ble_eq_true rfl⟩) hP hD hS hA [0, 1, 2, 3, 4, 5, 6] [7] rfl rfl (by decide) (by decide) (wr := [(ou, .inl (cJ, 1, .inr (.inl (fun _ => 0))))]) (wn := fun _ => []) (fun _ _ h9 => h9) (fun r1 _ H locs hp2 hP hD hS => ?_)
  have hP : va_P D cL [(ou, .inl (cJ, 1, .inr (.inl (fun _ => 0))))] H := hP
  have hD : va_D A [(ou, .inl (cJ, 1, .inr (.inl (fun _ => 0))))] := hD
  obtain rfl : r1 = 0 := hp2
  refine lv_i2l (v := 0) hx hb d_Law_show_7 (by decide) ?_
  refine va_last hx hb hK hP hD hS 0 2 rfl rfl (i := 0) (x := 0) (in_c (by decide)) d_Law_show_8 (fun H locs hP hD hS => ?_)
  have hP : va_P D cL [(ou, .inl (cJ, 1, .inr (.inl (vp_updL (fun _ => 0) (0 : Int32).toNatClampNeg 0))))] H := hP
  have hD : va_D A [(ou, .inl (cJ, 1, .inr (.inl (vp_updL (fun _ => 0) (0 : Int32).toNatClampNeg 0))))] := hD
  refine lv_goto hx hb d_Law_show_9 (tgt := 15) (by decide) ?_
  refine lv_iconst (v := 0) hx hb d_Law_show_15 (by decide) ?_
  exact end_i hx hb hr hlocks hS (u := ()) (r := 0) (at_end (hP.sub (ws' := [(ou, .inl (cJ, 1, .inr (.inl (vp_updL (fun _ => 0) (0 : Int32).toNatClampNeg 0))))]) [0] rfl) (hD.sub (ws' := [(ou, .inl (cJ, 1, .inr (.inl (vp_updL (fun _ => 0) (0 : Int32).toNatClampNeg 0))))]) [0] (by decide) rfl)) (rfl) (Nat.le_of_ble_eq_true rfl) (Nat.le_of_ble_eq_true rfl) d_Law_show_16

set_option maxHeartbeats 4000000 in
set_option maxRecDepth 100000 in
theorem l_show_5 (l : Launch) (D : va_G) (cI cZ cJ : ClassId) (h sc by_ wo st fl fn li rc kd it pa hi pt sv iz te fr va sa re vk vi sk si rk ri ou : Nat) (sz : Nat)  : Met l y_Law_show (.codeWith y_Law_show method_7_code 4 (some .int) [(0, 9, 12, 21)] :: AW) ({ frames := 1, cells := 0, slots := 0, locals := 21 }) (va_Pc [.ref h, .int 5, .ref ou] (pre_ D [(h, .inr (7, [.ref sc, .ref wo, .ref hi, .ref te])), (wo, .inr (6, [.ref st, .int 0, .ref fl, .ref fn, .ref li, .int 0, .ref rc, .int 0, .int 0])), (st, .inr (3, [.ref kd, .ref it, .ref pa])), (pa, .inl (cI, 16, .inl (fun _ => -1))), (hi, .inr (1, [.ref pt, .ref sv, .ref iz, .int 0])), (te, .inr (4, [.ref sc, .ref wo, .ref hi, .ref fr, .ref va, .ref sa, .ref re, .int 0, .int (-1)])), (sa, .inr (5, [.ref sk, .ref si, .int 0])), (ou, .inl (cJ, 1, .inr (.inl (fun _ => 0))))] [(cI, .int), (cZ, .boolean), (cJ, .long)] sz)) (va_Qi (fun (r : Int32) (u : Unit) => r = 0) (fun _ t => post_ D (va_A [(h, .inr (7, [.ref sc, .ref wo, .ref hi, .ref te])), (wo, .inr (6, [.ref st, .int 0, .ref fl, .ref fn, .ref li, .int 0, .ref rc, .int 0, .int 0])), (st, .inr (3, [.ref kd, .ref it, .ref pa])), (pa, .inl (cI, 16, .inl (fun _ => -1))), (hi, .inr (1, [.ref pt, .ref sv, .ref iz, .int 0])), (te, .inr (4, [.ref sc, .ref wo, .ref hi, .ref fr, .ref va, .ref sa, .ref re, .int 0, .int (-1)])), (sa, .inr (5, [.ref sk, .ref si, .int 0])), (ou, .inl (cJ, 1, .inr (.inl (fun _ => 0))))] sz) [(ou, .inl (cJ, 1, .inr (.inl (vp_updL (fun _ => 0) (0 : Int32).toNatClampNeg 0))))] t) (va_A [(h, .inr (7, [.ref sc, .ref wo, .ref hi, .ref te])), (wo, .inr (6, [.ref st, .int 0, .ref fl, .ref fn, .ref li, .int 0, .ref rc, .int 0, .int 0])), (st, .inr (3, [.ref kd, .ref it, .ref pa])), (pa, .inl (cI, 16, .inl (fun _ => -1))), (hi, .inr (1, [.ref pt, .ref sv, .ref iz, .int 0])), (te, .inr (4, [.ref sc, .ref wo, .ref hi, .ref fr, .ref va, .ref sa, .ref re, .int 0, .int (-1)])), (sa, .inr (5, [.ref sk, .ref si, .int 0])), (ou, .inl (cJ, 1, .inr (.inl (fun _ => 0))))] sz)) 0 0 (va_A [(h, .inr (7, [.ref sc, .ref wo, .ref hi, .ref te])), (wo, .inr (6, [.ref st, .int 0, .ref fl, .ref fn, .ref li, .int 0, .ref rc, .int 0, .int 0])), (st, .inr (3, [.ref kd, .ref it, .ref pa])), (pa, .inl (cI, 16, .inl (fun _ => -1))), (hi, .inr (1, [.ref pt, .ref sv, .ref iz, .int 0])), (te, .inr (4, [.ref sc, .ref wo, .ref hi, .ref fr, .ref va, .ref sa, .ref re, .int 0, .int (-1)])), (sa, .inr (5, [.ref sk, .ref si, .int 0])), (ou, .inl (cJ, 1, .inr (.inl (fun _ => 0))))] sz) := by
  refine va_MetW (cc := method_7_code) (maxL := 4) (ret := (some .int)) (by decide) rfl ?_
  intro p e s m args below meth c s₁ B hml hv
  obtain ⟨rfl, rfl, hP, hK, hD0, hT⟩ := hv
  have hx := B.exec
  have hb := B.bytes
  have hr := B.returns
  have hts0 := atoms_spec (ws := .codeWith y_Law_show method_7_code 4 (some .int) [(0, 9, 12, 21)] :: AW) B.pre
  have hts : ∀ w ∈ AW, w.before [.ref h, .int 5, .ref ou].toArray s = true := fun w h => hts0 w (List.mem_cons_of_mem _ h)
  have htab := vt_table B.named B.method (Stand.of_body B).code (hts0 _ List.mem_cons_self)
  have hown : s.vm.findClass "TaleMachineLaw" = some m.cls := findClass_of_methodNamed B.named
  have hlocks := B.notSynchronized
  have hD := hD0.self (sz := s.heap.size)
  generalize hAe : va_A [(h, .inr (7, [.ref sc, .ref wo, .ref hi, .ref te])), (wo, .inr (6, [.ref st, .int 0, .ref fl, .ref fn, .ref li, .int 0, .ref rc, .int 0, .int 0])), (st, .inr (3, [.ref kd, .ref it, .ref pa])), (pa, .inl (cI, 16, .inl (fun _ => -1))), (hi, .inr (1, [.ref pt, .ref sv, .ref iz, .int 0])), (te, .inr (4, [.ref sc, .ref wo, .ref hi, .ref fr, .ref va, .ref sa, .ref re, .int 0, .int (-1)])), (sa, .inr (5, [.ref sk, .ref si, .int 0])), (ou, .inl (cJ, 1, .inr (.inl (fun _ => 0))))] s.heap.size = A at hD ⊢
  have hA : ∀ q : Nat, s.heap.size ≤ q → A q := fun q h => by rw [← hAe]; exact Or.inr h
  have hS : va_S A s.heap s.heap [] := va_S.rf
  have hl := lv_entry ([.ref h, .int 5, .ref ou]) (n := 4) (Nat.le_of_ble_eq_true rfl)
  rw [lg_entry_eq]
  generalize (lg_sl ([.ref h, .int 5, .ref ou]) ++ List.replicate (4 - (lg_sl ([.ref h, .int 5, .ref ou])).length) Slot.unset).toArray = ls at hl ⊢
  have hl : lv_has ls 4 [(0, .ref h), (1, .int 5), (2, .ref ou)] := hl
  refine lv_aload_n hx hb d_Law_show_0 rfl (lv_at hl 2 rfl) ?_
  refine lv_iconst (v := 0) hx hb d_Law_show_1 (by decide) ?_
  refine lv_aload_n hx hb d_Law_show_2 rfl (lv_at hl 0 rfl) ?_
  refine lv_iload_n hx hb d_Law_show_3 rfl (lv_at hl 1 rfl) ?_
  refine mv_i (va_runV (C := "TaleMachine") (As := [.int 5]) (rest := [.int 0, .ref ou]) ⟨hx, hb, hml, hown, hts⟩ (c_TM_show_5 l D cI cZ cJ h sc 0 wo st fl fn li rc kd it pa hi pt sv iz te fr va sa re 0 0 sk si 0 0 _ ) (cwV 1 hts (gInV k_239 k_240 k_241 k_192 k_238) rfl rfl rfl (by decide +kernel) ⟨Nat.le_of_ble_eq_true rfl, Nat.le_of_ble_eq_true rfl⟩) (pre_V (va_recv hK hP (q := ("TaleMachine", F_TM, 4)) rfl (q0 := 0) rfl) (hP.sub [0, 1, 2, 3, 4, 5, 6] rfl) (hK.sub [0, 1, 2] rfl) (hD.sub [0, 1, 2, 3, 4, 5, 6] (by decide) rfl) hT) rfl rfl hl.1 rfl (lv_room (Nat.le_of_ble_eq_true rfl)) d_Law_show_4 ⟨Nat.le_of_ble_eq_true rfl, Nat.le_of_ble_eq_true rfl⟩) hP hD hS hA [0, 1, 2, 3, 4, 5, 6] [7] rfl rfl (by decide) (by decide) (wr := [(ou, .inl (cJ, 1, .inr (.inl (fun _ => 0))))]) (wn := fun _ => []) (fun _ _ h9 => h9) (fun r1 _ H locs hp2 hP hD hS => ?_)
  have hP : va_P D cL [(ou, .inl (cJ, 1, .inr (.inl (fun _ => 0))))] H := hP
  have hD : va_D A [(ou, .inl (cJ, 1, .inr (.inl (fun _ => 0))))] := hD
  obtain rfl : r1 = 0 := hp2
  refine lv_i2l (v := 0) hx hb d_Law_show_7 (by decide) ?_
  refine va_last hx hb hK hP hD hS 0 2 rfl rfl (i := 0) (x := 0) (in_c (by decide)) d_Law_show_8 (fun H locs hP hD hS => ?_)
  have hP : va_P D cL [(ou, .inl (cJ, 1, .inr (.inl (vp_updL (fun _ => 0) (0 : Int32).toNatClampNeg 0))))] H := hP
  have hD : va_D A [(ou, .inl (cJ, 1, .inr (.inl (vp_updL (fun _ => 0) (0 : Int32).toNatClampNeg 0))))] := hD
  refine lv_goto hx hb d_Law_show_9 (tgt := 15) (by decide) ?_
  refine lv_iconst (v := 0) hx hb d_Law_show_15 (by decide) ?_
  exact end_i hx hb hr hlocks hS (u := ()) (r := 0) (at_end (hP.sub (ws' := [(ou, .inl (cJ, 1, .inr (.inl (vp_updL (fun _ => 0) (0 : Int32).toNatClampNeg 0))))]) [0] rfl) (hD.sub (ws' := [(ou, .inl (cJ, 1, .inr (.inl (vp_updL (fun _ => 0) (0 : Int32).toNatClampNeg 0))))]) [0] (by decide) rfl)) (rfl) (Nat.le_of_ble_eq_true rfl) (Nat.le_of_ble_eq_true rfl) d_Law_show_16

set_option maxHeartbeats 4000000 in
set_option maxRecDepth 100000 in
theorem l_show_x (l : Launch) (hlt : l.stackTraces = false) (D : va_G) (cI cZ cJ : ClassId) (h sc by_ wo st fl fn li rc kd it pa hi pt sv iz te fr va sa re vk vi sk si rk ri ou : Nat) (wh : Int32) (sz : Nat) (hw : (wh < 0 ∨ 5 < wh) ∨ wh = 1 ∨ wh = 2) : Met l y_Law_show (.codeWith y_Law_show method_7_code 4 (some .int) [(0, 9, 12, 21)] :: AW) ({ frames := 7, cells := 1, slots := 6, locals := 121 }) (va_Pc [.ref h, .int wh, .ref ou] (preT_ D [(h, .inr (7, [.ref sc, .ref wo, .ref hi, .ref te])), (te, .inr (4, [.ref sc, .ref wo, .ref hi, .ref fr, .ref va, .ref sa, .ref re, .int 0, .int (-1)])), (ou, .inl (cJ, 1, .inr (.inl (fun _ => 0))))] [(cI, .int), (cZ, .boolean), (cJ, .long)] sz)) (va_Qi (fun (r : Int32) (u : Unit) => r = 1) (fun _ t => post_ D (va_A [(h, .inr (7, [.ref sc, .ref wo, .ref hi, .ref te])), (te, .inr (4, [.ref sc, .ref wo, .ref hi, .ref fr, .ref va, .ref sa, .ref re, .int 0, .int (-1)])), (ou, .inl (cJ, 1, .inr (.inl (fun _ => 0))))] sz) [] t) (va_A [(h, .inr (7, [.ref sc, .ref wo, .ref hi, .ref te])), (te, .inr (4, [.ref sc, .ref wo, .ref hi, .ref fr, .ref va, .ref sa, .ref re, .int 0, .int (-1)])), (ou, .inl (cJ, 1, .inr (.inl (fun _ => 0))))] sz)) 1 6 (va_A [(h, .inr (7, [.ref sc, .ref wo, .ref hi, .ref te])), (te, .inr (4, [.ref sc, .ref wo, .ref hi, .ref fr, .ref va, .ref sa, .ref re, .int 0, .int (-1)])), (ou, .inl (cJ, 1, .inr (.inl (fun _ => 0))))] sz) := by
  refine va_MetW (cc := method_7_code) (maxL := 4) (ret := (some .int)) (by decide) rfl ?_
  intro p e s m args below meth c s₁ B hml hv
  obtain ⟨rfl, ⟨rfl, hP, hK, hD0, hT⟩, hZ⟩ := hv
  have hx := B.exec
  have hb := B.bytes
  have hr := B.returns
  have hts0 := atoms_spec (ws := .codeWith y_Law_show method_7_code 4 (some .int) [(0, 9, 12, 21)] :: AW) B.pre
  have hts : ∀ w ∈ AW, w.before [.ref h, .int wh, .ref ou].toArray s = true := fun w h => hts0 w (List.mem_cons_of_mem _ h)
  have htab := vt_table B.named B.method (Stand.of_body B).code (hts0 _ List.mem_cons_self)
  have hown : s.vm.findClass "TaleMachineLaw" = some m.cls := findClass_of_methodNamed B.named
  have hlocks := B.notSynchronized
  have hns := vt_plain hP
  have hD := hD0.self (sz := s.heap.size)
  generalize hAe : va_A [(h, .inr (7, [.ref sc, .ref wo, .ref hi, .ref te])), (te, .inr (4, [.ref sc, .ref wo, .ref hi, .ref fr, .ref va, .ref sa, .ref re, .int 0, .int (-1)])), (ou, .inl (cJ, 1, .inr (.inl (fun _ => 0))))] s.heap.size = A at hns hZ hD ⊢
  have hA : ∀ q : Nat, s.heap.size ≤ q → A q := fun q h => by rw [← hAe]; exact Or.inr h
  have hS : va_S A s.heap s.heap [] := va_S.rf
  have hl := lv_entry ([.ref h, .int wh, .ref ou]) (n := 4) (Nat.le_of_ble_eq_true rfl)
  rw [lg_entry_eq]
  generalize (lg_sl ([.ref h, .int wh, .ref ou]) ++ List.replicate (4 - (lg_sl ([.ref h, .int wh, .ref ou])).length) Slot.unset).toArray = ls at hl ⊢
  have hl : lv_has ls 4 [(0, .ref h), (1, .int wh), (2, .ref ou)] := hl
  refine lv_aload_n hx hb d_Law_show_0 rfl (lv_at hl 2 rfl) ?_
  refine lv_iconst (v := 0) hx hb d_Law_show_1 (by decide) ?_
  refine lv_aload_n hx hb d_Law_show_2 rfl (lv_at hl 0 rfl) ?_
  refine lv_iload_n hx hb d_Law_show_3 rfl (lv_at hl 1 rfl) ?_
  refine vt_catch (own := "TaleMachineLaw") (vt_runV (C := "TaleMachine") (As := [.int wh]) (rest := [.int 0, .ref ou]) ⟨hx, hb, hml, hown, hts⟩ (x_TM_show l hlt D cI cZ cJ h sc 0 wo 0 0 0 0 0 0 0 0 hi 0 0 0 te fr va sa re 0 0 0 0 0 0 wh _ (by first | assumption | decide | omega)) (cwV 1 hts (gInV k_239 k_240 k_241 k_192 k_238) rfl rfl rfl (by decide +kernel) ⟨Nat.le_of_ble_eq_true rfl, Nat.le_of_ble_eq_true rfl⟩) (preT_V (va_recv hK hP (q := ("TaleMachine", F_TM, 4)) rfl (q0 := 0) rfl) (hP.sub [0, 1] rfl) (hK.sub [0, 1, 2] rfl) (hD.sub [0, 1] (by decide) rfl) hT (hZ.at hS (va_free (wc := [(h, .inr (7, [.ref sc, .ref wo, .ref hi, .ref te])), (te, .inr (4, [.ref sc, .ref wo, .ref hi, .ref fr, .ref va, .ref sa, .ref re, .int 0, .int (-1)]))]) hD hS hA [0, 1] rfl))) rfl rfl hl.1 rfl (lv_room (Nat.le_of_ble_eq_true rfl)) d_Law_show_4 ⟨Nat.le_of_ble_eq_true rfl, Nat.le_of_ble_eq_true rfl⟩) hS (fun q9 _ h9 => va_free (wc := [(h, .inr (7, [.ref sc, .ref wo, .ref hi, .ref te])), (te, .inr (4, [.ref sc, .ref wo, .ref hi, .ref fr, .ref va, .ref sa, .ref re, .int 0, .int (-1)]))]) hD hS hA [0, 1] rfl q9 h9) (va_free (wc := [(h, .inr (7, [.ref sc, .ref wo, .ref hi, .ref te])), (te, .inr (4, [.ref sc, .ref wo, .ref hi, .ref fr, .ref va, .ref sa, .ref re, .int 0, .int (-1)]))]) hD hS hA [0, 1] rfl) hown htab (by decide) (by decide) (hts _ k_221) (Tb_cast_N hT) (fun qx H locs hz hk hS => ?_)
  refine W.widen (k := 1) (n := 6) (Nat.le_of_ble_eq_true rfl) (Nat.le_of_ble_eq_true rfl) ?_
  have hP : va_P D cL [] H := va_nil
  have hD : va_D A [] := hD.sub (ws' := []) [] (by decide) rfl
  refine lv_astore_n (lv' := [(3, .ref qx), (0, .ref h), (1, .int wh), (2, .ref ou)]) hx hb d_Law_show_12 rfl hl (by decide) rfl (fun ls hl => ?_)
  refine lv_iconst (v := 1) hx hb d_Law_show_13 (by decide) ?_
  exact end_i hx hb hr hlocks hS (u := ()) (r := 1) (at_end (hP.sub (ws' := []) [] rfl) (hD.sub (ws' := []) [] (by decide) rfl)) (rfl) (Nat.le_of_ble_eq_true rfl) (Nat.le_of_ble_eq_true rfl) d_Law_show_14
