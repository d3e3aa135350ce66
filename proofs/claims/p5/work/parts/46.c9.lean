set_option maxHeartbeats 4000000 in
set_option maxRecDepth 100000 in
theorem x_isProperty (l : Launch) (D : va_G) (cI cZ cJ : ClassId) (pv : Int32) (sz : Nat)  : Met l y_TM_isProperty (.code y_TM_isProperty prog_1_method_14_code 1 (some .boolean) :: AW) ({ frames := 0, cells := 0, slots := 0, locals := 0 }) (va_Pc [.int pv] (pre_ D [] [(cI, .int), (cZ, .boolean), (cJ, .long)] sz)) (va_Qi (fun (r : Int32) (u : Unit) => (r = 0 ∨ r = 1) ∧ (r = 1 → ∃ j, j < 8 ∧ pv = nI j)) (fun _ t => post_ D (va_A [] sz) [] t) (va_A [] sz)) 0 0 (va_A [] sz) := by
  refine Met.ofW (cc := prog_1_method_14_code) (maxL := 1) (ret := (some .boolean)) (by decide) rfl ?_
  intro p e s m args below meth c s₁ B hml hv
  obtain ⟨rfl, rfl, hP, hK, hD0, hT⟩ := hv
  have hx := B.exec
  have hb := B.bytes
  have hr := B.returns
  have hts0 := atoms_spec (ws := .code y_TM_isProperty prog_1_method_14_code 1 (some .boolean) :: AW) B.pre
  have hts : ∀ w ∈ AW, w.before [.int pv].toArray s = true := fun w h => hts0 w (List.mem_cons_of_mem _ h)
  have hown : s.vm.findClass "TaleMachine" = some m.cls := findClass_of_methodNamed B.named
  have hlocks := B.notSynchronized
  have hD := hD0.self (sz := s.heap.size)
  generalize hAe : va_A [] s.heap.size = A at hD ⊢
  have hA : ∀ q : Nat, s.heap.size ≤ q → A q := fun q h => by rw [← hAe]; exact Or.inr h
  have hS : va_S A s.heap s.heap [] := va_S.rf
  have hl := lv_entry ([.int pv]) (n := 1) (Nat.le_of_ble_eq_true rfl)
  rw [lg_entry_eq]
  generalize (lg_sl ([.int pv]) ++ List.replicate (1 - (lg_sl ([.int pv])).length) Slot.unset).toArray = ls at hl ⊢
  have hl : lv_has ls 1 [(0, .int pv)] := hl
  refine lv_iload_n hx hb d_TM_isProperty_0 rfl (lv_at hl 0 rfl) ?_
  refine lv_if_lt hx hb d_TM_isProperty_1 (tgt := 14) (by decide) (fun hc1 => ?_) (fun hc1 => ?_)
  · refine lv_iconst (v := 0) hx hb d_TM_isProperty_14 (by decide) ?_
    exact end_z hx hb hr hlocks hS (u := ()) (r := 0) (at_end (hP.sub (ws' := []) [] rfl) (hD.sub (ws' := []) [] (by decide) rfl)) (⟨Or.inl rfl, fun h9 => absurd h9 (by decide)⟩) (by decide) (Nat.le_of_ble_eq_true rfl) (Nat.le_of_ble_eq_true rfl) d_TM_isProperty_15
  · refine lv_iload_n hx hb d_TM_isProperty_4 rfl (lv_at hl 0 rfl) ?_
    refine lv_bipush (v := 8) hx hb d_TM_isProperty_5 (by decide) ?_
    refine lv_icmp_ge hx hb d_TM_isProperty_7 (tgt := 14) (by decide) (fun hc2 => ?_) (fun hc2 => ?_)
    · refine lv_iconst (v := 0) hx hb d_TM_isProperty_14 (by decide) ?_
      exact end_z hx hb hr hlocks hS (u := ()) (r := 0) (at_end (hP.sub (ws' := []) [] rfl) (hD.sub (ws' := []) [] (by decide) rfl)) (⟨Or.inl rfl, fun h9 => absurd h9 (by decide)⟩) (by decide) (Nat.le_of_ble_eq_true rfl) (Nat.le_of_ble_eq_true rfl) d_TM_isProperty_15
    · refine lv_iconst (v := 1) hx hb d_TM_isProperty_10 (by decide) ?_
      refine lv_goto hx hb d_TM_isProperty_11 (tgt := 15) (by decide) ?_
      exact end_z hx hb hr hlocks hS (u := ()) (r := 1) (at_end (hP.sub (ws' := []) [] rfl) (hD.sub (ws' := []) [] (by decide) rfl)) (⟨Or.inr rfl, fun _ => pr_ix hc1 (Int32.not_le.mp hc2)⟩) (by decide) (Nat.le_of_ble_eq_true rfl) (Nat.le_of_ble_eq_true rfl) d_TM_isProperty_15

set_option maxHeartbeats 4000000 in
set_option maxRecDepth 100000 in
theorem t_top (l : Launch) (D : va_G) (cI cZ cJ : ClassId) (h : Nat) (sc : Nat) (wd : Nat) (hy : Nat) (fr : Nat) (vv : Nat) (sy : Nat) (rs : Nat) (de : Nat) (oc : Int32) (cF : ClassId) (fq : Nat → Nat) (sz : Nat) (hde : de ≤ 8) : Met l y_Teller_top (.code y_Teller_top prog_6_method_2_code 1 (some (.object "TaleMachine$Frame")) :: AW) ({ frames := 0, cells := 0, slots := 0, locals := 0 }) (va_Pc [.ref h] (pre_ D [(h, .inr (4, [.ref sc, .ref wd, .ref hy, .ref fr, .ref vv, .ref sy, .ref rs, .int (nI de), .int oc])), (fr, .inl (cF, 8, .inr (.inr (.inr (.inr (F8 fq))))))] [(cI, .int), (cZ, .boolean), (cJ, .long), (cF, .object "TaleMachine$Frame")] sz)) (va_Qr (fun (u : Unit) => True) (fun _ x t => x = fq (de - 1) ∧ post_ D (va_A [(h, .inr (4, [.ref sc, .ref wd, .ref hy, .ref fr, .ref vv, .ref sy, .ref rs, .int (nI de), .int oc])), (fr, .inl (cF, 8, .inr (.inr (.inr (.inr (F8 fq))))))] sz) [(h, .inr (4, [.ref sc, .ref wd, .ref hy, .ref fr, .ref vv, .ref sy, .ref rs, .int (nI de), .int oc])), (fr, .inl (cF, 8, .inr (.inr (.inr (.inr (F8 fq))))))] t) (va_A [(h, .inr (4, [.ref sc, .ref wd, .ref hy, .ref fr, .ref vv, .ref sy, .ref rs, .int (nI de), .int oc])), (fr, .inl (cF, 8, .inr (.inr (.inr (.inr (F8 fq))))))] sz)) 0 0 (va_A [(h, .inr (4, [.ref sc, .ref wd, .ref hy, .ref fr, .ref vv, .ref sy, .ref rs, .int (nI de), .int oc])), (fr, .inl (cF, 8, .inr (.inr (.inr (.inr (F8 fq))))))] sz) := by
  refine Met.ofW (cc := prog_6_method_2_code) (maxL := 1) (ret := (some (.object "TaleMachine$Frame"))) (by decide) rfl ?_
  intro p e s m args below meth c s₁ B hml hv
  obtain ⟨rfl, rfl, hP, hK, hD0, hT⟩ := hv
  have hx := B.exec
  have hb := B.bytes
  have hr := B.returns
  have hts0 := atoms_spec (ws := .code y_Teller_top prog_6_method_2_code 1 (some (.object "TaleMachine$Frame")) :: AW) B.pre
  have hts : ∀ w ∈ AW, w.before [.ref h].toArray s = true := fun w h => hts0 w (List.mem_cons_of_mem _ h)
  have hown : s.vm.findClass "TaleMachine$Teller" = some m.cls := findClass_of_methodNamed B.named
  have hlocks := B.notSynchronized
  have hD := hD0.self (sz := s.heap.size)
  generalize hAe : va_A [(h, .inr (4, [.ref sc, .ref wd, .ref hy, .ref fr, .ref vv, .ref sy, .ref rs, .int (nI de), .int oc])), (fr, .inl (cF, 8, .inr (.inr (.inr (.inr (F8 fq))))))] s.heap.size = A at hD ⊢
  have hA : ∀ q : Nat, s.heap.size ≤ q → A q := fun q h => by rw [← hAe]; exact Or.inr h
  have hS : va_S A s.heap s.heap [] := va_S.rf
  have hl := lv_entry ([.ref h]) (n := 1) (Nat.le_of_ble_eq_true rfl)
  rw [lg_entry_eq]
  generalize (lg_sl ([.ref h]) ++ List.replicate (1 - (lg_sl ([.ref h])).length) Slot.unset).toArray = ls at hl ⊢
  have hl : lv_has ls 1 [(0, .ref h)] := hl
  refine lv_aload_n hx hb d_Teller_top_0 rfl (lv_at hl 0 rfl) ?_
  refine va_get (D := D) (ci := 4) (v := .ref fr) (C := "TaleMachine$Teller") (T := F_Teller) (N := 9) hx hb hts in_Teller hown hK hP 0 rfl rfl 3 (by decide) (hts _ k_148) (fun _ h9 => h9) rfl d_Teller_top_1 ?_
  refine lv_aload_n hx hb d_Teller_top_4 rfl (lv_at hl 0 rfl) ?_
  refine va_get (D := D) (ci := 4) (v := .int (nI de)) (C := "TaleMachine$Teller") (T := F_Teller) (N := 9) hx hb hts in_Teller hown hK hP 0 rfl rfl 7 (by decide) (hts _ k_155) (fun _ h9 => h9) rfl d_Teller_top_5 ?_
  refine lv_if_le hx hb d_Teller_top_8 (tgt := 20) (by decide) (fun hc1 => ?_) (fun hc1 => ?_)
  · have hc1N : de ≤ 0 := (nI_leI (a := de) (b := 0) (by omega) (by omega)).mp hc1
    refine lv_iconst (v := 0) hx hb d_Teller_top_20 (by decide) ?_
    refine qa_ld hx hb hK hP 1 3 rfl rfl (k := 0) (v := (fq 0)) (by omega) (by first | decide | assumption) (F8_at (by omega)) d_Teller_top_21 ?_
    exact end_r hx hb hr hlocks hS (u := ()) (x := (fq 0)) (fun t ht => ⟨congrArg fq (by omega), at_end (hP.sub (ws' := [(h, .inr (4, [.ref sc, .ref wd, .ref hy, .ref fr, .ref vv, .ref sy, .ref rs, .int (nI de), .int oc])), (fr, .inl (cF, 8, .inr (.inr (.inr (.inr (F8 fq))))))]) [0, 1] rfl) (hD.sub (ws' := [(h, .inr (4, [.ref sc, .ref wd, .ref hy, .ref fr, .ref vv, .ref sy, .ref rs, .int (nI de), .int oc])), (fr, .inl (cF, 8, .inr (.inr (.inr (.inr (F8 fq))))))]) [0, 1] (by decide) rfl) t ht⟩) trivial (Nat.le_of_ble_eq_true rfl) (Nat.le_of_ble_eq_true rfl) d_Teller_top_22
  · have hc1N : ¬ de ≤ 0 := fun z9 => hc1 ((nI_leI (a := de) (b := 0) (by omega) (by omega)).mpr z9)
    refine lv_aload_n hx hb d_Teller_top_11 rfl (lv_at hl 0 rfl) ?_
    refine va_get (D := D) (ci := 4) (v := .int (nI de)) (C := "TaleMachine$Teller") (T := F_Teller) (N := 9) hx hb hts in_Teller hown hK hP 0 rfl rfl 7 (by decide) (hts _ k_155) (fun _ h9 => h9) rfl d_Teller_top_12 ?_
    refine lv_iconst (v := 1) hx hb d_Teller_top_15 (by decide) ?_
    refine lv_isub hx hb d_Teller_top_16 ?_
    refine lv_topi (fun z2 hz2 => ?_)
    obtain rfl : z2 = nI (de - 1) := hz2.trans (pk_sub (a := de) (b := 1) (by omega))
    refine lv_goto hx hb d_Teller_top_17 (tgt := 21) (by decide) ?_
    refine qa_ld hx hb hK hP 1 3 rfl rfl (k := de - 1) (v := (fq (de - 1))) (by omega) (by first | decide | assumption) (F8_at (by omega)) d_Teller_top_21 ?_
    exact end_r hx hb hr hlocks hS (u := ()) (x := (fq (de - 1))) (fun t ht => ⟨rfl, at_end (hP.sub (ws' := [(h, .inr (4, [.ref sc, .ref wd, .ref hy, .ref fr, .ref vv, .ref sy, .ref rs, .int (nI de), .int oc])), (fr, .inl (cF, 8, .inr (.inr (.inr (.inr (F8 fq))))))]) [0, 1] rfl) (hD.sub (ws' := [(h, .inr (4, [.ref sc, .ref wd, .ref hy, .ref fr, .ref vv, .ref sy, .ref rs, .int (nI de), .int oc])), (fr, .inl (cF, 8, .inr (.inr (.inr (.inr (F8 fq))))))]) [0, 1] (by decide) rfl) t ht⟩) trivial (Nat.le_of_ble_eq_true rfl) (Nat.le_of_ble_eq_true rfl) d_Teller_top_22

set_option maxHeartbeats 4000000 in
set_option maxRecDepth 100000 in
theorem t_topKind (l : Launch) (D : va_G) (cI cZ cJ : ClassId) (h : Nat) (sc : Nat) (wd : Nat) (hy : Nat) (fr : Nat) (vv : Nat) (sy : Nat) (rs : Nat) (de : Nat) (oc : Int32) (vk : Nat) (vi : Nat) (ct : Nat) (f1 : Nat → Int32) (f2 : Nat → Int32) (sz : Nat) (hct : ct ≤ 40) (hc1 : 1 ≤ ct) : Met l y_Teller_topKind (.code y_Teller_topKind prog_6_method_14_code 1 (some .int) :: AW) ({ frames := 0, cells := 0, slots := 0, locals := 0 }) (va_Pc [.ref h] (pre_ D [(h, .inr (4, [.ref sc, .ref wd, .ref hy, .ref fr, .ref vv, .ref sy, .ref rs, .int (nI de), .int oc])), (vv, .inr (5, [.ref vk, .ref vi, .int (nI ct)])), (vk, .inl (cI, 40, .inl f1)), (vi, .inl (cI, 40, .inl f2))] [(cI, .int), (cZ, .boolean), (cJ, .long)] sz)) (va_Qi (fun (r : Int32) (u : Unit) => r = f1 (ct - 1)) (fun _ t => post_ D (va_A [(h, .inr (4, [.ref sc, .ref wd, .ref hy, .ref fr, .ref vv, .ref sy, .ref rs, .int (nI de), .int oc])), (vv, .inr (5, [.ref vk, .ref vi, .int (nI ct)])), (vk, .inl (cI, 40, .inl f1)), (vi, .inl (cI, 40, .inl f2))] sz) [(h, .inr (4, [.ref sc, .ref wd, .ref hy, .ref fr, .ref vv, .ref sy, .ref rs, .int (nI de), .int oc])), (vv, .inr (5, [.ref vk, .ref vi, .int (nI ct)])), (vk, .inl (cI, 40, .inl f1)), (vi, .inl (cI, 40, .inl f2))] t) (va_A [(h, .inr (4, [.ref sc, .ref wd, .ref hy, .ref fr, .ref vv, .ref sy, .ref rs, .int (nI de), .int oc])), (vv, .inr (5, [.ref vk, .ref vi, .int (nI ct)])), (vk, .inl (cI, 40, .inl f1)), (vi, .inl (cI, 40, .inl f2))] sz)) 0 0 (va_A [(h, .inr (4, [.ref sc, .ref wd, .ref hy, .ref fr, .ref vv, .ref sy, .ref rs, .int (nI de), .int oc])), (vv, .inr (5, [.ref vk, .ref vi, .int (nI ct)])), (vk, .inl (cI, 40, .inl f1)), (vi, .inl (cI, 40, .inl f2))] sz) := by
  refine Met.ofW (cc := prog_6_method_14_code) (maxL := 1) (ret := (some .int)) (by decide) rfl ?_
  intro p e s m args below meth c s₁ B hml hv
  obtain ⟨rfl, rfl, hP, hK, hD0, hT⟩ := hv
  have hx := B.exec
  have hb := B.bytes
  have hr := B.returns
  have hts0 := atoms_spec (ws := .code y_Teller_topKind prog_6_method_14_code 1 (some .int) :: AW) B.pre
  have hts : ∀ w ∈ AW, w.before [.ref h].toArray s = true := fun w h => hts0 w (List.mem_cons_of_mem _ h)
  have hown : s.vm.findClass "TaleMachine$Teller" = some m.cls := findClass_of_methodNamed B.named
  have hlocks := B.notSynchronized
  have hD := hD0.self (sz := s.heap.size)
  generalize hAe : va_A [(h, .inr (4, [.ref sc, .ref wd, .ref hy, .ref fr, .ref vv, .ref sy, .ref rs, .int (nI de), .int oc])), (vv, .inr (5, [.ref vk, .ref vi, .int (nI ct)])), (vk, .inl (cI, 40, .inl f1)), (vi, .inl (cI, 40, .inl f2))] s.heap.size = A at hD ⊢
  have hA : ∀ q : Nat, s.heap.size ≤ q → A q := fun q h => by rw [← hAe]; exact Or.inr h
  have hS : va_S A s.heap s.heap [] := va_S.rf
  have hl := lv_entry ([.ref h]) (n := 1) (Nat.le_of_ble_eq_true rfl)
  rw [lg_entry_eq]
  generalize (lg_sl ([.ref h]) ++ List.replicate (1 - (lg_sl ([.ref h])).length) Slot.unset).toArray = ls at hl ⊢
  have hl : lv_has ls 1 [(0, .ref h)] := hl
  refine lv_aload_n hx hb d_Teller_topKind_0 rfl (lv_at hl 0 rfl) ?_
  refine va_get (D := D) (ci := 4) (v := .ref vv) (C := "TaleMachine$Teller") (T := F_Teller) (N := 9) hx hb hts in_Teller hown hK hP 0 rfl rfl 4 (by decide) (hts _ k_149) (fun _ h9 => h9) rfl d_Teller_topKind_1 ?_
  refine va_get (D := D) (ci := 5) (v := .ref vk) (C := "TaleMachine$Values") (T := F_Values) (N := 3) hx hb hts in_Values hown hK hP 1 rfl rfl 0 (by decide) (hts _ k_112) (fun _ h9 => h9) rfl d_Teller_topKind_4 ?_
  refine lv_aload_n hx hb d_Teller_topKind_7 rfl (lv_at hl 0 rfl) ?_
  refine va_get (D := D) (ci := 4) (v := .ref vv) (C := "TaleMachine$Teller") (T := F_Teller) (N := 9) hx hb hts in_Teller hown hK hP 0 rfl rfl 4 (by decide) (hts _ k_149) (fun _ h9 => h9) rfl d_Teller_topKind_8 ?_
  refine va_get (D := D) (ci := 5) (v := .int (nI ct)) (C := "TaleMachine$Values") (T := F_Values) (N := 3) hx hb hts in_Values hown hK hP 1 rfl rfl 2 (by decide) (hts _ k_118) (fun _ h9 => h9) rfl d_Teller_topKind_11 ?_
  refine lv_iconst (v := 1) hx hb d_Teller_topKind_14 (by decide) ?_
  refine lv_isub hx hb d_Teller_topKind_15 ?_
  refine lv_topi (fun z1 hz1 => ?_)
  obtain rfl : z1 = nI (ct - 1) := hz1.trans (pk_sub (a := ct) (b := 1) (by omega))
  refine ia_ld hx hb hK hP 2 0 rfl rfl (k := ct - 1) (by omega) (by first | decide | assumption) d_Teller_topKind_16 ?_
  exact end_i hx hb hr hlocks hS (u := ()) (r := (f1 (ct - 1))) (at_end (hP.sub (ws' := [(h, .inr (4, [.ref sc, .ref wd, .ref hy, .ref fr, .ref vv, .ref sy, .ref rs, .int (nI de), .int oc])), (vv, .inr (5, [.ref vk, .ref vi, .int (nI ct)])), (vk, .inl (cI, 40, .inl f1)), (vi, .inl (cI, 40, .inl f2))]) [0, 1, 2, 3] rfl) (hD.sub (ws' := [(h, .inr (4, [.ref sc, .ref wd, .ref hy, .ref fr, .ref vv, .ref sy, .ref rs, .int (nI de), .int oc])), (vv, .inr (5, [.ref vk, .ref vi, .int (nI ct)])), (vk, .inl (cI, 40, .inl f1)), (vi, .inl (cI, 40, .inl f2))]) [0, 1, 2, 3] (by decide) rfl)) (rfl) (Nat.le_of_ble_eq_true rfl) (Nat.le_of_ble_eq_true rfl) d_Teller_topKind_17

set_option maxHeartbeats 4000000 in
set_option maxRecDepth 100000 in
theorem t_topInt (l : Launch) (D : va_G) (cI cZ cJ : ClassId) (h : Nat) (sc : Nat) (wd : Nat) (hy : Nat) (fr : Nat) (vv : Nat) (sy : Nat) (rs : Nat) (de : Nat) (oc : Int32) (vk : Nat) (vi : Nat) (ct : Nat) (f1 : Nat → Int32) (f2 : Nat → Int32) (sz : Nat) (hct : ct ≤ 40) (hc1 : 1 ≤ ct) : Met l y_Teller_topInt (.code y_Teller_topInt prog_6_method_15_code 1 (some .int) :: AW) ({ frames := 0, cells := 0, slots := 0, locals := 0 }) (va_Pc [.ref h] (pre_ D [(h, .inr (4, [.ref sc, .ref wd, .ref hy, .ref fr, .ref vv, .ref sy, .ref rs, .int (nI de), .int oc])), (vv, .inr (5, [.ref vk, .ref vi, .int (nI ct)])), (vk, .inl (cI, 40, .inl f1)), (vi, .inl (cI, 40, .inl f2))] [(cI, .int), (cZ, .boolean), (cJ, .long)] sz)) (va_Qi (fun (r : Int32) (u : Unit) => r = f2 (ct - 1)) (fun _ t => post_ D (va_A [(h, .inr (4, [.ref sc, .ref wd, .ref hy, .ref fr, .ref vv, .ref sy, .ref rs, .int (nI de), .int oc])), (vv, .inr (5, [.ref vk, .ref vi, .int (nI ct)])), (vk, .inl (cI, 40, .inl f1)), (vi, .inl (cI, 40, .inl f2))] sz) [(h, .inr (4, [.ref sc, .ref wd, .ref hy, .ref fr, .ref vv, .ref sy, .ref rs, .int (nI de), .int oc])), (vv, .inr (5, [.ref vk, .ref vi, .int (nI ct)])), (vk, .inl (cI, 40, .inl f1)), (vi, .inl (cI, 40, .inl f2))] t) (va_A [(h, .inr (4, [.ref sc, .ref wd, .ref hy, .ref fr, .ref vv, .ref sy, .ref rs, .int (nI de), .int oc])), (vv, .inr (5, [.ref vk, .ref vi, .int (nI ct)])), (vk, .inl (cI, 40, .inl f1)), (vi, .inl (cI, 40, .inl f2))] sz)) 0 0 (va_A [(h, .inr (4, [.ref sc, .ref wd, .ref hy, .ref fr, .ref vv, .ref sy, .ref rs, .int (nI de), .int oc])), (vv, .inr (5, [.ref vk, .ref vi, .int (nI ct)])), (vk, .inl (cI, 40, .inl f1)), (vi, .inl (cI, 40, .inl f2))] sz) := by
  refine Met.ofW (cc := prog_6_method_15_code) (maxL := 1) (ret := (some .int)) (by decide) rfl ?_
  intro p e s m args below meth c s₁ B hml hv
  obtain ⟨rfl, rfl, hP, hK, hD0, hT⟩ := hv
  have hx := B.exec
  have hb := B.bytes
  have hr := B.returns
  have hts0 := atoms_spec (ws := .code y_Teller_topInt prog_6_method_15_code 1 (some .int) :: AW) B.pre
  have hts : ∀ w ∈ AW, w.before [.ref h].toArray s = true := fun w h => hts0 w (List.mem_cons_of_mem _ h)
  have hown : s.vm.findClass "TaleMachine$Teller" = some m.cls := findClass_of_methodNamed B.named
  have hlocks := B.notSynchronized
  have hD := hD0.self (sz := s.heap.size)
  generalize hAe : va_A [(h, .inr (4, [.ref sc, .ref wd, .ref hy, .ref fr, .ref vv, .ref sy, .ref rs, .int (nI de), .int oc])), (vv, .inr (5, [.ref vk, .ref vi, .int (nI ct)])), (vk, .inl (cI, 40, .inl f1)), (vi, .inl (cI, 40, .inl f2))] s.heap.size = A at hD ⊢
  have hA : ∀ q : Nat, s.heap.size ≤ q → A q := fun q h => by rw [← hAe]; exact Or.inr h
  have hS : va_S A s.heap s.heap [] := va_S.rf
  have hl := lv_entry ([.ref h]) (n := 1) (Nat.le_of_ble_eq_true rfl)
  rw [lg_entry_eq]
  generalize (lg_sl ([.ref h]) ++ List.replicate (1 - (lg_sl ([.ref h])).length) Slot.unset).toArray = ls at hl ⊢
  have hl : lv_has ls 1 [(0, .ref h)] := hl
  refine lv_aload_n hx hb d_Teller_topInt_0 rfl (lv_at hl 0 rfl) ?_
  refine va_get (D := D) (ci := 4) (v := .ref vv) (C := "TaleMachine$Teller") (T := F_Teller) (N := 9) hx hb hts in_Teller hown hK hP 0 rfl rfl 4 (by decide) (hts _ k_149) (fun _ h9 => h9) rfl d_Teller_topInt_1 ?_
  refine va_get (D := D) (ci := 5) (v := .ref vi) (C := "TaleMachine$Values") (T := F_Values) (N := 3) hx hb hts in_Values hown hK hP 1 rfl rfl 1 (by decide) (hts _ k_115) (fun _ h9 => h9) rfl d_Teller_topInt_4 ?_
  refine lv_aload_n hx hb d_Teller_topInt_7 rfl (lv_at hl 0 rfl) ?_
  refine va_get (D := D) (ci := 4) (v := .ref vv) (C := "TaleMachine$Teller") (T := F_Teller) (N := 9) hx hb hts in_Teller hown hK hP 0 rfl rfl 4 (by decide) (hts _ k_149) (fun _ h9 => h9) rfl d_Teller_topInt_8 ?_
  refine va_get (D := D) (ci := 5) (v := .int (nI ct)) (C := "TaleMachine$Values") (T := F_Values) (N := 3) hx hb hts in_Values hown hK hP 1 rfl rfl 2 (by decide) (hts _ k_118) (fun _ h9 => h9) rfl d_Teller_topInt_11 ?_
  refine lv_iconst (v := 1) hx hb d_Teller_topInt_14 (by decide) ?_
  refine lv_isub hx hb d_Teller_topInt_15 ?_
  refine lv_topi (fun z1 hz1 => ?_)
  obtain rfl : z1 = nI (ct - 1) := hz1.trans (pk_sub (a := ct) (b := 1) (by omega))
  refine ia_ld hx hb hK hP 3 0 rfl rfl (k := ct - 1) (by omega) (by first | decide | assumption) d_Teller_topInt_16 ?_
  exact end_i hx hb hr hlocks hS (u := ()) (r := (f2 (ct - 1))) (at_end (hP.sub (ws' := [(h, .inr (4, [.ref sc, .ref wd, .ref hy, .ref fr, .ref vv, .ref sy, .ref rs, .int (nI de), .int oc])), (vv, .inr (5, [.ref vk, .ref vi, .int (nI ct)])), (vk, .inl (cI, 40, .inl f1)), (vi, .inl (cI, 40, .inl f2))]) [0, 1, 2, 3] rfl) (hD.sub (ws' := [(h, .inr (4, [.ref sc, .ref wd, .ref hy, .ref fr, .ref vv, .ref sy, .ref rs, .int (nI de), .int oc])), (vv, .inr (5, [.ref vk, .ref vi, .int (nI ct)])), (vk, .inl (cI, 40, .inl f1)), (vi, .inl (cI, 40, .inl f2))]) [0, 1, 2, 3] (by decide) rfl)) (rfl) (Nat.le_of_ble_eq_true rfl) (Nat.le_of_ble_eq_true rfl) d_Teller_topInt_17
