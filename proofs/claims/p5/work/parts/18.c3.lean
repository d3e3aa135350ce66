set_option maxHeartbeats 4000000 in
set_option maxRecDepth 100000 in
theorem t_copy (l : Launch) (D : va_G) (cI cZ cJ : ClassId) (h kd it pa h2 kd2 it2 pa2 : Nat) (fkd fit fpa gk gi gp : Nat → Int32) (sz : Nat)  : Met l y_State_copy (.code y_State_copy prog_5_method_2_code 2 none :: AW) ({ frames := 1, cells := 0, slots := 0, locals := 140 }) (va_Pc [.ref h, .ref h2] (pre_ D [(h, .inr (3, [.ref kd, .ref it, .ref pa])), (kd, .inl (cI, 256, .inl fkd)), (it, .inl (cI, 256, .inl fit)), (pa, .inl (cI, 16, .inl fpa)), (h2, .inr (3, [.ref kd2, .ref it2, .ref pa2])), (kd2, .inl (cI, 256, .inl gk)), (it2, .inl (cI, 256, .inl gi)), (pa2, .inl (cI, 16, .inl gp))] [(cI, .int), (cZ, .boolean), (cJ, .long)] sz)) (va_Qv (fun (u : Unit) => True) (fun _ t => post_ D (va_A [(h, .inr (3, [.ref kd, .ref it, .ref pa])), (kd, .inl (cI, 256, .inl fkd)), (it, .inl (cI, 256, .inl fit)), (pa, .inl (cI, 16, .inl fpa)), (h2, .inr (3, [.ref kd2, .ref it2, .ref pa2])), (kd2, .inl (cI, 256, .inl gk)), (it2, .inl (cI, 256, .inl gi)), (pa2, .inl (cI, 16, .inl gp))] sz) [(h, .inr (3, [.ref kd, .ref it, .ref pa])), (kd, .inl (cI, 256, .inl gk)), (it, .inl (cI, 256, .inl gi)), (pa, .inl (cI, 16, .inl gp)), (h2, .inr (3, [.ref kd2, .ref it2, .ref pa2])), (kd2, .inl (cI, 256, .inl gk)), (it2, .inl (cI, 256, .inl gi)), (pa2, .inl (cI, 16, .inl gp))] t) (va_A [(h, .inr (3, [.ref kd, .ref it, .ref pa])), (kd, .inl (cI, 256, .inl fkd)), (it, .inl (cI, 256, .inl fit)), (pa, .inl (cI, 16, .inl fpa)), (h2, .inr (3, [.ref kd2, .ref it2, .ref pa2])), (kd2, .inl (cI, 256, .inl gk)), (it2, .inl (cI, 256, .inl gi)), (pa2, .inl (cI, 16, .inl gp))] sz)) 0 0 (va_A [(h, .inr (3, [.ref kd, .ref it, .ref pa])), (kd, .inl (cI, 256, .inl fkd)), (it, .inl (cI, 256, .inl fit)), (pa, .inl (cI, 16, .inl fpa)), (h2, .inr (3, [.ref kd2, .ref it2, .ref pa2])), (kd2, .inl (cI, 256, .inl gk)), (it2, .inl (cI, 256, .inl gi)), (pa2, .inl (cI, 16, .inl gp))] sz) := by
  refine Met.ofW (cc := prog_5_method_2_code) (maxL := 2) (ret := none) (by decide) rfl ?_
  intro p e s m args below meth c s₁ B hml hv
  obtain ⟨rfl, rfl, hP, hK, hD0, hT⟩ := hv
  have hx := B.exec
  have hb := B.bytes
  have hr := B.returns
  have hts0 := atoms_spec (ws := .code y_State_copy prog_5_method_2_code 2 none :: AW) B.pre
  have hts : ∀ w ∈ AW, w.before [.ref h, .ref h2].toArray s = true := fun w h => hts0 w (List.mem_cons_of_mem _ h)
  have hown : s.vm.findClass "TaleMachine$State" = some m.cls := findClass_of_methodNamed B.named
  have hlocks := B.notSynchronized
  have hD := hD0.self (sz := s.heap.size)
  generalize hAe : va_A [(h, .inr (3, [.ref kd, .ref it, .ref pa])), (kd, .inl (cI, 256, .inl fkd)), (it, .inl (cI, 256, .inl fit)), (pa, .inl (cI, 16, .inl fpa)), (h2, .inr (3, [.ref kd2, .ref it2, .ref pa2])), (kd2, .inl (cI, 256, .inl gk)), (it2, .inl (cI, 256, .inl gi)), (pa2, .inl (cI, 16, .inl gp))] s.heap.size = A at hD ⊢
  have hA : ∀ q : Nat, s.heap.size ≤ q → A q := fun q h => by rw [← hAe]; exact Or.inr h
  have hS : va_S A s.heap s.heap [] := va_S.rf
  have hl := lv_entry ([.ref h, .ref h2]) (n := 2) (Nat.le_of_ble_eq_true rfl)
  rw [lg_entry_eq]
  generalize (lg_sl ([.ref h, .ref h2]) ++ List.replicate (2 - (lg_sl ([.ref h, .ref h2])).length) Slot.unset).toArray = ls at hl ⊢
  have hl : lv_has ls 2 [(0, .ref h), (1, .ref h2)] := hl
  refine lv_aload_n hx hb d_State_copy_0 rfl (lv_at hl 1 rfl) ?_
  refine va_get (D := D) (ci := 3) (v := .ref kd2) (C := "TaleMachine$State") (T := F_State) (N := 3) hx hb hts in_State hown hK hP 4 rfl rfl 0 (by decide) (hts _ k_51) (fun _ h9 => h9) rfl d_State_copy_1 ?_
  refine lv_iconst (v := 0) hx hb d_State_copy_4 (by decide) ?_
  refine lv_aload_n hx hb d_State_copy_5 rfl (lv_at hl 0 rfl) ?_
  refine va_get (D := D) (ci := 3) (v := .ref kd) (C := "TaleMachine$State") (T := F_State) (N := 3) hx hb hts in_State hown hK hP 0 rfl rfl 0 (by decide) (hts _ k_51) (fun _ h9 => h9) rfl d_State_copy_6 ?_
  refine lv_iconst (v := 0) hx hb d_State_copy_9 (by decide) ?_
  refine lv_aload_n hx hb d_State_copy_10 rfl (lv_at hl 0 rfl) ?_
  refine va_get (D := D) (ci := 3) (v := .ref kd) (C := "TaleMachine$State") (T := F_State) (N := 3) hx hb hts in_State hown hK hP 0 rfl rfl 0 (by decide) (hts _ k_51) (fun _ h9 => h9) rfl d_State_copy_11 ?_
  refine va_alen hx hb hK hP 1 0 rfl rfl (v := 256) rfl d_State_copy_14 ?_
  refine ac_i (x := 0) (y := 0) (z := 256) hx hb (hml.trans hl.1.symm) hown (hts _ k_408) (hts _ k_273) (hts _ k_272) (hts _ k_17) hK hP hD hS 5 1 0 rfl rfl rfl (by omega) (by omega) (by decide) (by decide) (Nat.le_of_ble_eq_true rfl) (Nat.le_of_ble_eq_true rfl) d_State_copy_15 (fun H locs hP hD hS => ?_)
  have hP : va_P D cL [(h, .inr (3, [.ref kd, .ref it, .ref pa])), (kd, .inl (cI, 256, .inl (va_cpy gk fkd 0 0 256))), (it, .inl (cI, 256, .inl fit)), (pa, .inl (cI, 16, .inl fpa)), (h2, .inr (3, [.ref kd2, .ref it2, .ref pa2])), (kd2, .inl (cI, 256, .inl gk)), (it2, .inl (cI, 256, .inl gi)), (pa2, .inl (cI, 16, .inl gp))] H := hP
  have hD : va_D A [(h, .inr (3, [.ref kd, .ref it, .ref pa])), (kd, .inl (cI, 256, .inl (va_cpy gk fkd 0 0 256))), (it, .inl (cI, 256, .inl fit)), (pa, .inl (cI, 16, .inl fpa)), (h2, .inr (3, [.ref kd2, .ref it2, .ref pa2])), (kd2, .inl (cI, 256, .inl gk)), (it2, .inl (cI, 256, .inl gi)), (pa2, .inl (cI, 16, .inl gp))] := hD
  have hP := cell_ext hP 1 rfl cpy_all
  have hD := hD.set (p := 1) (e := .inl (cI, 256, .inl gk)) rfl
  have hP : va_P D cL [(h, .inr (3, [.ref kd, .ref it, .ref pa])), (kd, .inl (cI, 256, .inl gk)), (it, .inl (cI, 256, .inl fit)), (pa, .inl (cI, 16, .inl fpa)), (h2, .inr (3, [.ref kd2, .ref it2, .ref pa2])), (kd2, .inl (cI, 256, .inl gk)), (it2, .inl (cI, 256, .inl gi)), (pa2, .inl (cI, 16, .inl gp))] H := hP
  have hD : va_D A [(h, .inr (3, [.ref kd, .ref it, .ref pa])), (kd, .inl (cI, 256, .inl gk)), (it, .inl (cI, 256, .inl fit)), (pa, .inl (cI, 16, .inl fpa)), (h2, .inr (3, [.ref kd2, .ref it2, .ref pa2])), (kd2, .inl (cI, 256, .inl gk)), (it2, .inl (cI, 256, .inl gi)), (pa2, .inl (cI, 16, .inl gp))] := hD
  refine lv_aload_n hx hb d_State_copy_18 rfl (lv_at hl 1 rfl) ?_
  refine va_get (D := D) (ci := 3) (v := .ref it2) (C := "TaleMachine$State") (T := F_State) (N := 3) hx hb hts in_State hown hK hP 4 rfl rfl 1 (by decide) (hts _ k_53) (fun _ h9 => h9) rfl d_State_copy_19 ?_
  refine lv_iconst (v := 0) hx hb d_State_copy_22 (by decide) ?_
  refine lv_aload_n hx hb d_State_copy_23 rfl (lv_at hl 0 rfl) ?_
  refine va_get (D := D) (ci := 3) (v := .ref it) (C := "TaleMachine$State") (T := F_State) (N := 3) hx hb hts in_State hown hK hP 0 rfl rfl 1 (by decide) (hts _ k_53) (fun _ h9 => h9) rfl d_State_copy_24 ?_
  refine lv_iconst (v := 0) hx hb d_State_copy_27 (by decide) ?_
  refine lv_aload_n hx hb d_State_copy_28 rfl (lv_at hl 0 rfl) ?_
  refine va_get (D := D) (ci := 3) (v := .ref it) (C := "TaleMachine$State") (T := F_State) (N := 3) hx hb hts in_State hown hK hP 0 rfl rfl 1 (by decide) (hts _ k_53) (fun _ h9 => h9) rfl d_State_copy_29 ?_
  refine va_alen hx hb hK hP 2 0 rfl rfl (v := 256) rfl d_State_copy_32 ?_
  refine ac_i (x := 0) (y := 0) (z := 256) hx hb (hml.trans hl.1.symm) hown (hts _ k_408) (hts _ k_273) (hts _ k_272) (hts _ k_17) hK hP hD hS 6 2 0 rfl rfl rfl (by omega) (by omega) (by decide) (by decide) (Nat.le_of_ble_eq_true rfl) (Nat.le_of_ble_eq_true rfl) d_State_copy_33 (fun H locs hP hD hS => ?_)
  have hP : va_P D cL [(h, .inr (3, [.ref kd, .ref it, .ref pa])), (kd, .inl (cI, 256, .inl gk)), (it, .inl (cI, 256, .inl (va_cpy gi fit 0 0 256))), (pa, .inl (cI, 16, .inl fpa)), (h2, .inr (3, [.ref kd2, .ref it2, .ref pa2])), (kd2, .inl (cI, 256, .inl gk)), (it2, .inl (cI, 256, .inl gi)), (pa2, .inl (cI, 16, .inl gp))] H := hP
  have hD : va_D A [(h, .inr (3, [.ref kd, .ref it, .ref pa])), (kd, .inl (cI, 256, .inl gk)), (it, .inl (cI, 256, .inl (va_cpy gi fit 0 0 256))), (pa, .inl (cI, 16, .inl fpa)), (h2, .inr (3, [.ref kd2, .ref it2, .ref pa2])), (kd2, .inl (cI, 256, .inl gk)), (it2, .inl (cI, 256, .inl gi)), (pa2, .inl (cI, 16, .inl gp))] := hD
  have hP := cell_ext hP 2 rfl cpy_all
  have hD := hD.set (p := 2) (e := .inl (cI, 256, .inl gi)) rfl
  have hP : va_P D cL [(h, .inr (3, [.ref kd, .ref it, .ref pa])), (kd, .inl (cI, 256, .inl gk)), (it, .inl (cI, 256, .inl gi)), (pa, .inl (cI, 16, .inl fpa)), (h2, .inr (3, [.ref kd2, .ref it2, .ref pa2])), (kd2, .inl (cI, 256, .inl gk)), (it2, .inl (cI, 256, .inl gi)), (pa2, .inl (cI, 16, .inl gp))] H := hP
  have hD : va_D A [(h, .inr (3, [.ref kd, .ref it, .ref pa])), (kd, .inl (cI, 256, .inl gk)), (it, .inl (cI, 256, .inl gi)), (pa, .inl (cI, 16, .inl fpa)), (h2, .inr (3, [.ref kd2, .ref it2, .ref pa2])), (kd2, .inl (cI, 256, .inl gk)), (it2, .inl (cI, 256, .inl gi)), (pa2, .inl (cI, 16, .inl gp))] := hD
  refine lv_aload_n hx hb d_State_copy_36 rfl (lv_at hl 1 rfl) ?_
  refine va_get (D := D) (ci := 3) (v := .ref pa2) (C := "TaleMachine$State") (T := F_State) (N := 3) hx hb hts in_State hown hK hP 4 rfl rfl 2 (by decide) (hts _ k_55) (fun _ h9 => h9) rfl d_State_copy_37 ?_
  refine lv_iconst (v := 0) hx hb d_State_copy_40 (by decide) ?_
  refine lv_aload_n hx hb d_State_copy_41 rfl (lv_at hl 0 rfl) ?_
  refine va_get (D := D) (ci := 3) (v := .ref pa) (C := "TaleMachine$State") (T := F_State) (N := 3) hx hb hts in_State hown hK hP 0 rfl rfl 2 (by decide) (hts _ k_55) (fun _ h9 => h9) rfl d_State_copy_42 ?_
  refine lv_iconst (v := 0) hx hb d_State_copy_45 (by decide) ?_
  refine lv_aload_n hx hb d_State_copy_46 rfl (lv_at hl 0 rfl) ?_
  refine va_get (D := D) (ci := 3) (v := .ref pa) (C := "TaleMachine$State") (T := F_State) (N := 3) hx hb hts in_State hown hK hP 0 rfl rfl 2 (by decide) (hts _ k_55) (fun _ h9 => h9) rfl d_State_copy_47 ?_
  refine va_alen hx hb hK hP 3 0 rfl rfl (v := 16) rfl d_State_copy_50 ?_
  refine ac_i (x := 0) (y := 0) (z := 16) hx hb (hml.trans hl.1.symm) hown (hts _ k_408) (hts _ k_273) (hts _ k_272) (hts _ k_17) hK hP hD hS 7 3 0 rfl rfl rfl (by omega) (by omega) (by decide) (by decide) (Nat.le_of_ble_eq_true rfl) (Nat.le_of_ble_eq_true rfl) d_State_copy_51 (fun H locs hP hD hS => ?_)
  have hP : va_P D cL [(h, .inr (3, [.ref kd, .ref it, .ref pa])), (kd, .inl (cI, 256, .inl gk)), (it, .inl (cI, 256, .inl gi)), (pa, .inl (cI, 16, .inl (va_cpy gp fpa 0 0 16))), (h2, .inr (3, [.ref kd2, .ref it2, .ref pa2])), (kd2, .inl (cI, 256, .inl gk)), (it2, .inl (cI, 256, .inl gi)), (pa2, .inl (cI, 16, .inl gp))] H := hP
  have hD : va_D A [(h, .inr (3, [.ref kd, .ref it, .ref pa])), (kd, .inl (cI, 256, .inl gk)), (it, .inl (cI, 256, .inl gi)), (pa, .inl (cI, 16, .inl (va_cpy gp fpa 0 0 16))), (h2, .inr (3, [.ref kd2, .ref it2, .ref pa2])), (kd2, .inl (cI, 256, .inl gk)), (it2, .inl (cI, 256, .inl gi)), (pa2, .inl (cI, 16, .inl gp))] := hD
  have hP := cell_ext hP 3 rfl cpy_all
  have hD := hD.set (p := 3) (e := .inl (cI, 16, .inl gp)) rfl
  have hP : va_P D cL [(h, .inr (3, [.ref kd, .ref it, .ref pa])), (kd, .inl (cI, 256, .inl gk)), (it, .inl (cI, 256, .inl gi)), (pa, .inl (cI, 16, .inl gp)), (h2, .inr (3, [.ref kd2, .ref it2, .ref pa2])), (kd2, .inl (cI, 256, .inl gk)), (it2, .inl (cI, 256, .inl gi)), (pa2, .inl (cI, 16, .inl gp))] H := hP
  have hD : va_D A [(h, .inr (3, [.ref kd, .ref it, .ref pa])), (kd, .inl (cI, 256, .inl gk)), (it, .inl (cI, 256, .inl gi)), (pa, .inl (cI, 16, .inl gp)), (h2, .inr (3, [.ref kd2, .ref it2, .ref pa2])), (kd2, .inl (cI, 256, .inl gk)), (it2, .inl (cI, 256, .inl gi)), (pa2, .inl (cI, 16, .inl gp))] := hD
  exact end_v hx hb hr hlocks hS (u := ()) (at_end (hP.sub (ws' := [(h, .inr (3, [.ref kd, .ref it, .ref pa])), (kd, .inl (cI, 256, .inl gk)), (it, .inl (cI, 256, .inl gi)), (pa, .inl (cI, 16, .inl gp)), (h2, .inr (3, [.ref kd2, .ref it2, .ref pa2])), (kd2, .inl (cI, 256, .inl gk)), (it2, .inl (cI, 256, .inl gi)), (pa2, .inl (cI, 16, .inl gp))]) [0, 1, 2, 3, 4, 5, 6, 7] rfl) (hD.sub (ws' := [(h, .inr (3, [.ref kd, .ref it, .ref pa])), (kd, .inl (cI, 256, .inl gk)), (it, .inl (cI, 256, .inl gi)), (pa, .inl (cI, 16, .inl gp)), (h2, .inr (3, [.ref kd2, .ref it2, .ref pa2])), (kd2, .inl (cI, 256, .inl gk)), (it2, .inl (cI, 256, .inl gi)), (pa2, .inl (cI, 16, .inl gp))]) [0, 1, 2, 3, 4, 5, 6, 7] (by decide) rfl)) (trivial) (Nat.le_of_ble_eq_true rfl) (Nat.le_of_ble_eq_true rfl) d_State_copy_54

set_option maxHeartbeats 4000000 in
set_option maxRecDepth 100000 in
theorem w_count (l : Launch) (D : va_G) (cI cZ cJ : ClassId) (h st fl fn li rc kd it pa : Nat) (fx le rn_ : Nat) (rb : Int32) (fpa : Nat → Int32) (sz : Nat)  : Met l y_World_count (.code y_World_count prog_8_method_4_code 3 (some .int) :: AW) ({ frames := 0, cells := 0, slots := 0, locals := 0 }) (va_Pc [.ref h] (pre_ D [(h, .inr (6, [.ref st, .int (nI fx), .ref fl, .ref fn, .ref li, .int (nI le), .ref rc, .int (nI rn_), .int rb])), (st, .inr (3, [.ref kd, .ref it, .ref pa])), (pa, .inl (cI, 16, .inl fpa))] [(cI, .int), (cZ, .boolean), (cJ, .long)] sz)) (va_Qi (fun (r : Int32) (u : Unit) => True) (fun _ t => post_ D (va_A [(h, .inr (6, [.ref st, .int (nI fx), .ref fl, .ref fn, .ref li, .int (nI le), .ref rc, .int (nI rn_), .int rb])), (st, .inr (3, [.ref kd, .ref it, .ref pa])), (pa, .inl (cI, 16, .inl fpa))] sz) [(h, .inr (6, [.ref st, .int (nI fx), .ref fl, .ref fn, .ref li, .int (nI le), .ref rc, .int (nI rn_), .int rb])), (st, .inr (3, [.ref kd, .ref it, .ref pa])), (pa, .inl (cI, 16, .inl fpa))] t) (va_A [(h, .inr (6, [.ref st, .int (nI fx), .ref fl, .ref fn, .ref li, .int (nI le), .ref rc, .int (nI rn_), .int rb])), (st, .inr (3, [.ref kd, .ref it, .ref pa])), (pa, .inl (cI, 16, .inl fpa))] sz)) 0 0 (va_A [(h, .inr (6, [.ref st, .int (nI fx), .ref fl, .ref fn, .ref li, .int (nI le), .ref rc, .int (nI rn_), .int rb])), (st, .inr (3, [.ref kd, .ref it, .ref pa])), (pa, .inl (cI, 16, .inl fpa))] sz) := by
  refine Met.ofW (cc := prog_8_method_4_code) (maxL := 3) (ret := (some .int)) (by decide) rfl ?_
  intro p e s m args below meth c s₁ B hml hv
  obtain ⟨rfl, rfl, hP, hK, hD0, hT⟩ := hv
  have hx := B.exec
  have hb := B.bytes
  have hr := B.returns
  have hts0 := atoms_spec (ws := .code y_World_count prog_8_method_4_code 3 (some .int) :: AW) B.pre
  have hts : ∀ w ∈ AW, w.before [.ref h].toArray s = true := fun w h => hts0 w (List.mem_cons_of_mem _ h)
  have hown : s.vm.findClass "TaleMachine$World" = some m.cls := findClass_of_methodNamed B.named
  have hlocks := B.notSynchronized
  have hD := hD0.self (sz := s.heap.size)
  generalize hAe : va_A [(h, .inr (6, [.ref st, .int (nI fx), .ref fl, .ref fn, .ref li, .int (nI le), .ref rc, .int (nI rn_), .int rb])), (st, .inr (3, [.ref kd, .ref it, .ref pa])), (pa, .inl (cI, 16, .inl fpa))] s.heap.size = A at hD ⊢
  have hA : ∀ q : Nat, s.heap.size ≤ q → A q := fun q h => by rw [← hAe]; exact Or.inr h
  have hS : va_S A s.heap s.heap [] := va_S.rf
  have hl := lv_entry ([.ref h]) (n := 3) (Nat.le_of_ble_eq_true rfl)
  rw [lg_entry_eq]
  generalize (lg_sl ([.ref h]) ++ List.replicate (3 - (lg_sl ([.ref h])).length) Slot.unset).toArray = ls at hl ⊢
  have hl : lv_has ls 3 [(0, .ref h)] := hl
  refine lv_aload_n hx hb d_World_count_0 rfl (lv_at hl 0 rfl) ?_
  refine va_get (D := D) (ci := 6) (v := .int (nI fx)) (C := "TaleMachine$World") (T := F_World) (N := 9) hx hb hts in_World hown hK hP 0 rfl rfl 1 (by decide) (hts _ k_62) (fun _ h9 => h9) rfl d_World_count_1 ?_
  refine lv_istore_n (lv' := [(1, .int (nI fx)), (0, .ref h)]) hx hb d_World_count_4 rfl hl (by decide) rfl (fun ls hl => ?_)
  refine lv_iconst (v := 0) hx hb d_World_count_5 (by decide) ?_
  refine lv_istore_n (lv' := [(2, .int 0), (1, .int (nI fx)), (0, .ref h)]) hx hb d_World_count_6 rfl hl (by decide) rfl (fun ls hl => ?_)
  refine lp_W (I := fun k1 H locs ls => ∃ tv : Int32, (True) ∧ va_P D cL [(h, .inr (6, [.ref st, .int (nI fx), .ref fl, .ref fn, .ref li, .int (nI le), .ref rc, .int (nI rn_), .int rb])), (st, .inr (3, [.ref kd, .ref it, .ref pa])), (pa, .inl (cI, 16, .inl fpa))] H ∧ va_D A [(h, .inr (6, [.ref st, .int (nI fx), .ref fl, .ref fn, .ref li, .int (nI le), .ref rc, .int (nI rn_), .int rb])), (st, .inr (3, [.ref kd, .ref it, .ref pa])), (pa, .inl (cI, 16, .inl fpa))] ∧ va_S A s.heap H locs ∧ lv_has ls 3 [(2, .int (nI k1)), (1, .int tv), (0, .ref h)]) (a := 0) (b := 16) (by omega) ?_ _ _ _ ⟨(nI fx), trivial, hP, hD, hS, lv_sub hl [0, 1, 2] rfl⟩
  intro k1 H locs ls hkak1 hkbk1 hI ih2
  obtain ⟨tv, hIk1, hP, hD, hS, hl⟩ := hI
  rcases Nat.lt_or_ge k1 16 with hkk1 | hkk1
  · refine lv_iload_n hx hb d_World_count_7 rfl (lv_at hl 0 rfl) ?_
    refine lv_bipush (v := 16) hx hb d_World_count_8 (by decide) ?_
    refine lv_icmp_ge hx hb d_World_count_10 (tgt := 35) (by decide) (fun hc3 => ?_) (fun hc3 => ?_)
    · have hc3N : 16 ≤ k1 := (nI_leI (a := 16) (b := k1) (by omega) (by omega)).mp hc3
      exact absurd hc3N (by omega)
    · have hc3N : ¬ 16 ≤ k1 := fun z9 => hc3 ((nI_leI (a := 16) (b := k1) (by omega) (by omega)).mpr z9)
      refine lv_aload_n hx hb d_World_count_13 rfl (lv_at hl 2 rfl) ?_
      refine va_get (D := D) (ci := 6) (v := .ref st) (C := "TaleMachine$World") (T := F_World) (N := 9) hx hb hts in_World hown hK hP 0 rfl rfl 0 (by decide) (hts _ k_60) (fun _ h9 => h9) rfl d_World_count_14 ?_
      refine va_get (D := D) (ci := 3) (v := .ref pa) (C := "TaleMachine$State") (T := F_State) (N := 3) hx hb hts in_State hown hK hP 1 rfl rfl 2 (by decide) (hts _ k_56) (fun _ h9 => h9) rfl d_World_count_17 ?_
      refine lv_iload_n hx hb d_World_count_20 rfl (lv_at hl 0 rfl) ?_
      refine ia_ld hx hb hK hP 2 0 rfl rfl (k := k1) (by omega) (by first | decide | assumption) d_World_count_21 ?_
      refine lv_iconst (v := (-1)) hx hb d_World_count_22 (by decide) ?_
      refine lv_icmp_eq hx hb d_World_count_23 (tgt := 29) (by decide) (fun hc4 => ?_) (fun hc4 => ?_)
      · refine lv_iinc (v := (nI (k1 + 1))) (lv' := [(2, .int (nI (k1 + 1))), (1, .int tv), (0, .ref h)]) hx hb d_World_count_29 hl (k := 0) rfl (nI_1 k1) (by decide) rfl (fun ls hl => ?_)
        refine lv_goto hx hb d_World_count_32 (tgt := 7) (by decide) ?_
        exact ih2 hkk1 _ _ _ ⟨tv, trivial, hP, hD, hS, lv_sub hl [0, 1, 2] rfl⟩
      · refine lv_iinc (v := (tv + 1)) (lv' := [(1, .int (tv + 1)), (2, .int (nI k1)), (0, .ref h)]) hx hb d_World_count_26 hl (k := 1) rfl rfl (by decide) rfl (fun ls hl => ?_)
        refine lv_iinc (v := (nI (k1 + 1))) (lv' := [(2, .int (nI (k1 + 1))), (1, .int (tv + 1)), (0, .ref h)]) hx hb d_World_count_29 hl (k := 1) rfl (nI_1 k1) (by decide) rfl (fun ls hl => ?_)
        refine lv_goto hx hb d_World_count_32 (tgt := 7) (by decide) ?_
        exact ih2 hkk1 _ _ _ ⟨(tv + 1), trivial, hP, hD, hS, lv_sub hl [0, 1, 2] rfl⟩
  · have hkk1 : k1 = 16 := by omega
    refine lv_iload_n hx hb d_World_count_7 rfl (lv_at hl 0 rfl) ?_
    refine lv_bipush (v := 16) hx hb d_World_count_8 (by decide) ?_
    refine lv_icmp_ge hx hb d_World_count_10 (tgt := 35) (by decide) (fun hc5 => ?_) (fun hc5 => ?_)
    · have hc5N : 16 ≤ k1 := (nI_leI (a := 16) (b := k1) (by omega) (by omega)).mp hc5
      refine lv_iload_n hx hb d_World_count_35 rfl (lv_at hl 1 rfl) ?_
      exact end_i hx hb hr hlocks hS (u := ()) (r := tv) (at_end (hP.sub (ws' := [(h, .inr (6, [.ref st, .int (nI fx), .ref fl, .ref fn, .ref li, .int (nI le), .ref rc, .int (nI rn_), .int rb])), (st, .inr (3, [.ref kd, .ref it, .ref pa])), (pa, .inl (cI, 16, .inl fpa))]) [0, 1, 2] rfl) (hD.sub (ws' := [(h, .inr (6, [.ref st, .int (nI fx), .ref fl, .ref fn, .ref li, .int (nI le), .ref rc, .int (nI rn_), .int rb])), (st, .inr (3, [.ref kd, .ref it, .ref pa])), (pa, .inl (cI, 16, .inl fpa))]) [0, 1, 2] (by decide) rfl)) (trivial) (Nat.le_of_ble_eq_true rfl) (Nat.le_of_ble_eq_true rfl) d_World_count_36
    · have hc5N : ¬ 16 ≤ k1 := fun z9 => hc5 ((nI_leI (a := 16) (b := k1) (by omega) (by omega)).mpr z9)
      exact absurd hc5N (by omega)

set_option maxHeartbeats 4000000 in
set_option maxRecDepth 100000 in
theorem w_inLine (l : Launch) (D : va_G) (cI cZ cJ : ClassId) (h st fl fn li rc kd it pa : Nat) (fx le rn_ : Nat) (rb : Int32) (oo : Int32) (fli : Nat → Int32) (sz : Nat) (hle : le ≤ 32) : Met l y_World_inLine (.code y_World_inLine prog_8_method_13_code 3 (some .int) :: AW) ({ frames := 0, cells := 0, slots := 0, locals := 0 }) (va_Pc [.ref h, .int oo] (pre_ D [(h, .inr (6, [.ref st, .int (nI fx), .ref fl, .ref fn, .ref li, .int (nI le), .ref rc, .int (nI rn_), .int rb])), (li, .inl (cI, 32, .inl fli))] [(cI, .int), (cZ, .boolean), (cJ, .long)] sz)) (va_Qi (fun (r : Int32) (u : Unit) => r = -1 ∨ ∃ j, j < le ∧ r = nI j) (fun _ t => post_ D (va_A [(h, .inr (6, [.ref st, .int (nI fx), .ref fl, .ref fn, .ref li, .int (nI le), .ref rc, .int (nI rn_), .int rb])), (li, .inl (cI, 32, .inl fli))] sz) [(h, .inr (6, [.ref st, .int (nI fx), .ref fl, .ref fn, .ref li, .int (nI le), .ref rc, .int (nI rn_), .int rb])), (li, .inl (cI, 32, .inl fli))] t) (va_A [(h, .inr (6, [.ref st, .int (nI fx), .ref fl, .ref fn, .ref li, .int (nI le), .ref rc, .int (nI rn_), .int rb])), (li, .inl (cI, 32, .inl fli))] sz)) 0 0 (va_A [(h, .inr (6, [.ref st, .int (nI fx), .ref fl, .ref fn, .ref li, .int (nI le), .ref rc, .int (nI rn_), .int rb])), (li, .inl (cI, 32, .inl fli))] sz) := by
  refine Met.ofW (cc := prog_8_method_13_code) (maxL := 3) (ret := (some .int)) (by decide) rfl ?_
  intro p e s m args below meth c s₁ B hml hv
  obtain ⟨rfl, rfl, hP, hK, hD0, hT⟩ := hv
  have hx := B.exec
  have hb := B.bytes
  have hr := B.returns
  have hts0 := atoms_spec (ws := .code y_World_inLine prog_8_method_13_code 3 (some .int) :: AW) B.pre
  have hts : ∀ w ∈ AW, w.before [.ref h, .int oo].toArray s = true := fun w h => hts0 w (List.mem_cons_of_mem _ h)
  have hown : s.vm.findClass "TaleMachine$World" = some m.cls := findClass_of_methodNamed B.named
  have hlocks := B.notSynchronized
  have hD := hD0.self (sz := s.heap.size)
  generalize hAe : va_A [(h, .inr (6, [.ref st, .int (nI fx), .ref fl, .ref fn, .ref li, .int (nI le), .ref rc, .int (nI rn_), .int rb])), (li, .inl (cI, 32, .inl fli))] s.heap.size = A at hD ⊢
  have hA : ∀ q : Nat, s.heap.size ≤ q → A q := fun q h => by rw [← hAe]; exact Or.inr h
  have hS : va_S A s.heap s.heap [] := va_S.rf
  have hl := lv_entry ([.ref h, .int oo]) (n := 3) (Nat.le_of_ble_eq_true rfl)
  rw [lg_entry_eq]
  generalize (lg_sl ([.ref h, .int oo]) ++ List.replicate (3 - (lg_sl ([.ref h, .int oo])).length) Slot.unset).toArray = ls at hl ⊢
  have hl : lv_has ls 3 [(0, .ref h), (1, .int oo)] := hl
  refine lv_iconst (v := 0) hx hb d_World_inLine_0 (by decide) ?_
  refine lv_istore_n (lv' := [(2, .int 0), (0, .ref h), (1, .int oo)]) hx hb d_World_inLine_1 rfl hl (by decide) rfl (fun ls hl => ?_)
  refine lp_W (I := fun k1 H locs ls => (True) ∧ va_P D cL [(h, .inr (6, [.ref st, .int (nI fx), .ref fl, .ref fn, .ref li, .int (nI le), .ref rc, .int (nI rn_), .int rb])), (li, .inl (cI, 32, .inl fli))] H ∧ va_D A [(h, .inr (6, [.ref st, .int (nI fx), .ref fl, .ref fn, .ref li, .int (nI le), .ref rc, .int (nI rn_), .int rb])), (li, .inl (cI, 32, .inl fli))] ∧ va_S A s.heap H locs ∧ lv_has ls 3 [(2, .int (nI k1)), (0, .ref h), (1, .int oo)]) (a := 0) (b := le) (by omega) ?_ _ _ _ ⟨trivial, hP, hD, hS, lv_sub hl [0, 1, 2] rfl⟩
  intro k1 H locs ls hkak1 hkbk1 hI ih2
  obtain ⟨hIk1, hP, hD, hS, hl⟩ := hI
  rcases Nat.lt_or_ge k1 le with hkk1 | hkk1
  · refine lv_iload_n hx hb d_World_inLine_2 rfl (lv_at hl 0 rfl) ?_
    refine lv_aload_n hx hb d_World_inLine_3 rfl (lv_at hl 1 rfl) ?_
    refine va_get (D := D) (ci := 6) (v := .int (nI le)) (C := "TaleMachine$World") (T := F_World) (N := 9) hx hb hts in_World hown hK hP 0 rfl rfl 5 (by decide) (hts _ k_67) (fun _ h9 => h9) rfl d_World_inLine_4 ?_
    refine lv_icmp_ge hx hb d_World_inLine_7 (tgt := 28) (by decide) (fun hc3 => ?_) (fun hc3 => ?_)
    · have hc3N : le ≤ k1 := (nI_leI (a := le) (b := k1) (by omega) (by omega)).mp hc3
      exact absurd hc3N (by omega)
    · have hc3N : ¬ le ≤ k1 := fun z9 => hc3 ((nI_leI (a := le) (b := k1) (by omega) (by omega)).mpr z9)
      refine lv_aload_n hx hb d_World_inLine_10 rfl (lv_at hl 1 rfl) ?_
      refine va_get (D := D) (ci := 6) (v := .ref li) (C := "TaleMachine$World") (T := F_World) (N := 9) hx hb hts in_World hown hK hP 0 rfl rfl 4 (by decide) (hts _ k_66) (fun _ h9 => h9) rfl d_World_inLine_11 ?_
      refine lv_iload_n hx hb d_World_inLine_14 rfl (lv_at hl 0 rfl) ?_
      refine ia_ld hx hb hK hP 1 0 rfl rfl (k := k1) (by omega) (by first | decide | assumption) d_World_inLine_15 ?_
      refine lv_iload_n hx hb d_World_inLine_16 rfl (lv_at hl 2 rfl) ?_
      refine lv_icmp_ne hx hb d_World_inLine_17 (tgt := 22) (by decide) (fun hc4 => ?_) (fun hc4 => ?_)
      · refine lv_iinc (v := (nI (k1 + 1))) (lv' := [(2, .int (nI (k1 + 1))), (0, .ref h), (1, .int oo)]) hx hb d_World_inLine_22 hl (k := 0) rfl (nI_1 k1) (by decide) rfl (fun ls hl => ?_)
        refine lv_goto hx hb d_World_inLine_25 (tgt := 2) (by decide) ?_
        exact ih2 hkk1 _ _ _ ⟨trivial, hP, hD, hS, lv_sub hl [0, 1, 2] rfl⟩
      · refine lv_iload_n hx hb d_World_inLine_20 rfl (lv_at hl 0 rfl) ?_
        exact end_i hx hb hr hlocks hS (u := ()) (r := (nI k1)) (at_end (hP.sub (ws' := [(h, .inr (6, [.ref st, .int (nI fx), .ref fl, .ref fn, .ref li, .int (nI le), .ref rc, .int (nI rn_), .int rb])), (li, .inl (cI, 32, .inl fli))]) [0, 1] rfl) (hD.sub (ws' := [(h, .inr (6, [.ref st, .int (nI fx), .ref fl, .ref fn, .ref li, .int (nI le), .ref rc, .int (nI rn_), .int rb])), (li, .inl (cI, 32, .inl fli))]) [0, 1] (by decide) rfl)) (Or.inr ⟨k1, by omega, rfl⟩) (Nat.le_of_ble_eq_true rfl) (Nat.le_of_ble_eq_true rfl) d_World_inLine_21
  · have hkk1 : k1 = le := by omega
    refine lv_iload_n hx hb d_World_inLine_2 rfl (lv_at hl 0 rfl) ?_
    refine lv_aload_n hx hb d_World_inLine_3 rfl (lv_at hl 1 rfl) ?_
    refine va_get (D := D) (ci := 6) (v := .int (nI le)) (C := "TaleMachine$World") (T := F_World) (N := 9) hx hb hts in_World hown hK hP 0 rfl rfl 5 (by decide) (hts _ k_67) (fun _ h9 => h9) rfl d_World_inLine_4 ?_
    refine lv_icmp_ge hx hb d_World_inLine_7 (tgt := 28) (by decide) (fun hc5 => ?_) (fun hc5 => ?_)
    · have hc5N : le ≤ k1 := (nI_leI (a := le) (b := k1) (by omega) (by omega)).mp hc5
      refine lv_iconst (v := (-1)) hx hb d_World_inLine_28 (by decide) ?_
      exact end_i hx hb hr hlocks hS (u := ()) (r := (-1)) (at_end (hP.sub (ws' := [(h, .inr (6, [.ref st, .int (nI fx), .ref fl, .ref fn, .ref li, .int (nI le), .ref rc, .int (nI rn_), .int rb])), (li, .inl (cI, 32, .inl fli))]) [0, 1] rfl) (hD.sub (ws' := [(h, .inr (6, [.ref st, .int (nI fx), .ref fl, .ref fn, .ref li, .int (nI le), .ref rc, .int (nI rn_), .int rb])), (li, .inl (cI, 32, .inl fli))]) [0, 1] (by decide) rfl)) (Or.inl rfl) (Nat.le_of_ble_eq_true rfl) (Nat.le_of_ble_eq_true rfl) d_World_inLine_29
    · have hc5N : ¬ le ≤ k1 := fun z9 => hc5 ((nI_leI (a := le) (b := k1) (by omega) (by omega)).mpr z9)
      exact absurd hc5N (by omega)
