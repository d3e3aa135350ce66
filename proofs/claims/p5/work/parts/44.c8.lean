set_option maxHeartbeats 4000000 in
set_option maxRecDepth 100000 in
theorem h_dropPoints (l : Launch) (D : va_G) (cI cZ cJ : ClassId) (h : Nat) (pt : Nat) (sv : Nat) (is_ : Nat) (po : Nat) (sz : Nat)  : Met l y_History_dropPoints (.code y_History_dropPoints prog_3_method_7_code 1 none :: AW) ({ frames := 0, cells := 0, slots := 0, locals := 0 }) (va_Pc [.ref h] (pre_ D [(h, .inr (1, [.ref pt, .ref sv, .ref is_, .int (nI po)]))] [(cI, .int), (cZ, .boolean), (cJ, .long)] sz)) (va_Qv (fun (u : Unit) => True) (fun _ t => post_ D (va_A [(h, .inr (1, [.ref pt, .ref sv, .ref is_, .int (nI po)]))] sz) [(h, .inr (1, [.ref pt, .ref sv, .ref is_, .int 0]))] t) (va_A [(h, .inr (1, [.ref pt, .ref sv, .ref is_, .int (nI po)]))] sz)) 0 0 (va_A [(h, .inr (1, [.ref pt, .ref sv, .ref is_, .int (nI po)]))] sz) := by
  refine Met.ofW (cc := prog_3_method_7_code) (maxL := 1) (ret := none) (by decide) rfl ?_
  intro p e s m args below meth c s₁ B hml hv
  obtain ⟨rfl, rfl, hP, hK, hD0, hT⟩ := hv
  have hx := B.exec
  have hb := B.bytes
  have hr := B.returns
  have hts0 := atoms_spec (ws := .code y_History_dropPoints prog_3_method_7_code 1 none :: AW) B.pre
  have hts : ∀ w ∈ AW, w.before [.ref h].toArray s = true := fun w h => hts0 w (List.mem_cons_of_mem _ h)
  have hown : s.vm.findClass "TaleMachine$History" = some m.cls := findClass_of_methodNamed B.named
  have hlocks := B.notSynchronized
  have hD := hD0.self (sz := s.heap.size)
  generalize hAe : va_A [(h, .inr (1, [.ref pt, .ref sv, .ref is_, .int (nI po)]))] s.heap.size = A at hD ⊢
  have hA : ∀ q : Nat, s.heap.size ≤ q → A q := fun q h => by rw [← hAe]; exact Or.inr h
  have hS : va_S A s.heap s.heap [] := va_S.rf
  have hl := lv_entry ([.ref h]) (n := 1) (Nat.le_of_ble_eq_true rfl)
  rw [lg_entry_eq]
  generalize (lg_sl ([.ref h]) ++ List.replicate (1 - (lg_sl ([.ref h])).length) Slot.unset).toArray = ls at hl ⊢
  have hl : lv_has ls 1 [(0, .ref h)] := hl
  refine lv_aload_n hx hb d_History_dropPoints_0 rfl (lv_at hl 0 rfl) ?_
  refine lv_iconst (v := 0) hx hb d_History_dropPoints_1 (by decide) ?_
  refine va_put (D := D) (ci := 1) (v := .int 0) (ty := .int) (C := "TaleMachine$History") (T := F_History) (N := 4) hx hb hts in_History t_History t_History_ok n_History hown hK hP hD hS 0 rfl rfl 3 (by decide) (hts _ k_91) (fun _ h9 => h9) rfl (by decide +kernel) rfl rfl (Nat.le_of_ble_eq_true rfl) d_History_dropPoints_2 (fun H locs hP hD hS => ?_)
  have hP : va_P D cL [(h, .inr (1, [.ref pt, .ref sv, .ref is_, .int 0]))] H := hP
  have hD : va_D A [(h, .inr (1, [.ref pt, .ref sv, .ref is_, .int 0]))] := hD
  exact end_v hx hb hr hlocks hS (u := ()) (at_end (hP.sub (ws' := [(h, .inr (1, [.ref pt, .ref sv, .ref is_, .int 0]))]) [0] rfl) (hD.sub (ws' := [(h, .inr (1, [.ref pt, .ref sv, .ref is_, .int 0]))]) [0] (by decide) rfl)) (trivial) (Nat.le_of_ble_eq_true rfl) (Nat.le_of_ble_eq_true rfl) d_History_dropPoints_5

set_option maxHeartbeats 4000000 in
set_option maxRecDepth 100000 in
theorem h_dropOldest (l : Launch) (D : va_G) (cI cZ cJ : ClassId) (h : Nat) (pt : Nat) (sv : Nat) (is_ : Nat) (cS : ClassId) (sp0 : Nat) (sp1 : Nat) (sp2 : Nat) (sk0 : Nat) (si0 : Nat) (sr0 : Nat) (gk0 : Nat → Int32) (gi0 : Nat → Int32) (gr0 : Nat → Int32) (sk1 : Nat) (si1 : Nat) (sr1 : Nat) (gk1 : Nat → Int32) (gi1 : Nat → Int32) (gr1 : Nat → Int32) (sk2 : Nat) (si2 : Nat) (sr2 : Nat) (gk2 : Nat → Int32) (gi2 : Nat → Int32) (gr2 : Nat → Int32) (sz : Nat)  : Met l y_History_dropOldest (.code y_History_dropOldest prog_3_method_3_code 3 none :: AW) ({ frames := 0, cells := 0, slots := 0, locals := 0 }) (va_Pc [.ref h] (pre_ D [(h, .inr (1, [.ref pt, .ref sv, .ref is_, .int 3])), (pt, .inl (cS, 3, .inr (.inr (.inr (.inr (T3 sp0 sp1 sp2)))))), (sp0, .inr (3, [.ref sk0, .ref si0, .ref sr0])), (sk0, .inl (cI, 256, .inl gk0)), (si0, .inl (cI, 256, .inl gi0)), (sr0, .inl (cI, 16, .inl gr0)), (sp1, .inr (3, [.ref sk1, .ref si1, .ref sr1])), (sk1, .inl (cI, 256, .inl gk1)), (si1, .inl (cI, 256, .inl gi1)), (sr1, .inl (cI, 16, .inl gr1)), (sp2, .inr (3, [.ref sk2, .ref si2, .ref sr2])), (sk2, .inl (cI, 256, .inl gk2)), (si2, .inl (cI, 256, .inl gi2)), (sr2, .inl (cI, 16, .inl gr2))] [(cI, .int), (cZ, .boolean), (cJ, .long), (cS, .object "TaleMachine$State")] sz)) (va_Qv (fun (u : Unit) => True) (fun _ t => post_ D (va_A [(h, .inr (1, [.ref pt, .ref sv, .ref is_, .int 3])), (pt, .inl (cS, 3, .inr (.inr (.inr (.inr (T3 sp0 sp1 sp2)))))), (sp0, .inr (3, [.ref sk0, .ref si0, .ref sr0])), (sk0, .inl (cI, 256, .inl gk0)), (si0, .inl (cI, 256, .inl gi0)), (sr0, .inl (cI, 16, .inl gr0)), (sp1, .inr (3, [.ref sk1, .ref si1, .ref sr1])), (sk1, .inl (cI, 256, .inl gk1)), (si1, .inl (cI, 256, .inl gi1)), (sr1, .inl (cI, 16, .inl gr1)), (sp2, .inr (3, [.ref sk2, .ref si2, .ref sr2])), (sk2, .inl (cI, 256, .inl gk2)), (si2, .inl (cI, 256, .inl gi2)), (sr2, .inl (cI, 16, .inl gr2))] sz) [(h, .inr (1, [.ref pt, .ref sv, .ref is_, .int 2])), (pt, .inl (cS, 3, .inr (.inr (.inr (.inr (T3 sp1 sp2 sp0)))))), (sp0, .inr (3, [.ref sk0, .ref si0, .ref sr0])), (sk0, .inl (cI, 256, .inl gk0)), (si0, .inl (cI, 256, .inl gi0)), (sr0, .inl (cI, 16, .inl gr0)), (sp1, .inr (3, [.ref sk1, .ref si1, .ref sr1])), (sk1, .inl (cI, 256, .inl gk1)), (si1, .inl (cI, 256, .inl gi1)), (sr1, .inl (cI, 16, .inl gr1)), (sp2, .inr (3, [.ref sk2, .ref si2, .ref sr2])), (sk2, .inl (cI, 256, .inl gk2)), (si2, .inl (cI, 256, .inl gi2)), (sr2, .inl (cI, 16, .inl gr2))] t) (va_A [(h, .inr (1, [.ref pt, .ref sv, .ref is_, .int 3])), (pt, .inl (cS, 3, .inr (.inr (.inr (.inr (T3 sp0 sp1 sp2)))))), (sp0, .inr (3, [.ref sk0, .ref si0, .ref sr0])), (sk0, .inl (cI, 256, .inl gk0)), (si0, .inl (cI, 256, .inl gi0)), (sr0, .inl (cI, 16, .inl gr0)), (sp1, .inr (3, [.ref sk1, .ref si1, .ref sr1])), (sk1, .inl (cI, 256, .inl gk1)), (si1, .inl (cI, 256, .inl gi1)), (sr1, .inl (cI, 16, .inl gr1)), (sp2, .inr (3, [.ref sk2, .ref si2, .ref sr2])), (sk2, .inl (cI, 256, .inl gk2)), (si2, .inl (cI, 256, .inl gi2)), (sr2, .inl (cI, 16, .inl gr2))] sz)) 0 0 (va_A [(h, .inr (1, [.ref pt, .ref sv, .ref is_, .int 3])), (pt, .inl (cS, 3, .inr (.inr (.inr (.inr (T3 sp0 sp1 sp2)))))), (sp0, .inr (3, [.ref sk0, .ref si0, .ref sr0])), (sk0, .inl (cI, 256, .inl gk0)), (si0, .inl (cI, 256, .inl gi0)), (sr0, .inl (cI, 16, .inl gr0)), (sp1, .inr (3, [.ref sk1, .ref si1, .ref sr1])), (sk1, .inl (cI, 256, .inl gk1)), (si1, .inl (cI, 256, .inl gi1)), (sr1, .inl (cI, 16, .inl gr1)), (sp2, .inr (3, [.ref sk2, .ref si2, .ref sr2])), (sk2, .inl (cI, 256, .inl gk2)), (si2, .inl (cI, 256, .inl gi2)), (sr2, .inl (cI, 16, .inl gr2))] sz) := by
  refine Met.ofW (cc := prog_3_method_3_code) (maxL := 3) (ret := none) (by decide) rfl ?_
  intro p e s m args below meth c s₁ B hml hv
  obtain ⟨rfl, rfl, hP, hK, hD0, hT⟩ := hv
  have hx := B.exec
  have hb := B.bytes
  have hr := B.returns
  have hts0 := atoms_spec (ws := .code y_History_dropOldest prog_3_method_3_code 3 none :: AW) B.pre
  have hts : ∀ w ∈ AW, w.before [.ref h].toArray s = true := fun w h => hts0 w (List.mem_cons_of_mem _ h)
  have hown : s.vm.findClass "TaleMachine$History" = some m.cls := findClass_of_methodNamed B.named
  have hlocks := B.notSynchronized
  have hD := hD0.self (sz := s.heap.size)
  generalize hAe : va_A [(h, .inr (1, [.ref pt, .ref sv, .ref is_, .int 3])), (pt, .inl (cS, 3, .inr (.inr (.inr (.inr (T3 sp0 sp1 sp2)))))), (sp0, .inr (3, [.ref sk0, .ref si0, .ref sr0])), (sk0, .inl (cI, 256, .inl gk0)), (si0, .inl (cI, 256, .inl gi0)), (sr0, .inl (cI, 16, .inl gr0)), (sp1, .inr (3, [.ref sk1, .ref si1, .ref sr1])), (sk1, .inl (cI, 256, .inl gk1)), (si1, .inl (cI, 256, .inl gi1)), (sr1, .inl (cI, 16, .inl gr1)), (sp2, .inr (3, [.ref sk2, .ref si2, .ref sr2])), (sk2, .inl (cI, 256, .inl gk2)), (si2, .inl (cI, 256, .inl gi2)), (sr2, .inl (cI, 16, .inl gr2))] s.heap.size = A at hD ⊢
  have hA : ∀ q : Nat, s.heap.size ≤ q → A q := fun q h => by rw [← hAe]; exact Or.inr h
  have hS : va_S A s.heap s.heap [] := va_S.rf
  have hl := lv_entry ([.ref h]) (n := 3) (Nat.le_of_ble_eq_true rfl)
  rw [lg_entry_eq]
  generalize (lg_sl ([.ref h]) ++ List.replicate (3 - (lg_sl ([.ref h])).length) Slot.unset).toArray = ls at hl ⊢
  have hl : lv_has ls 3 [(0, .ref h)] := hl
  refine lv_aload_n hx hb d_History_dropOldest_0 rfl (lv_at hl 0 rfl) ?_
  refine va_get (D := D) (ci := 1) (v := .ref pt) (C := "TaleMachine$History") (T := F_History) (N := 4) hx hb hts in_History hown hK hP 0 rfl rfl 0 (by decide) (hts _ k_88) (fun _ h9 => h9) rfl d_History_dropOldest_1 ?_
  refine lv_iconst (v := 0) hx hb d_History_dropOldest_4 (by decide) ?_
  refine qa_ld hx hb hK hP 1 3 rfl rfl (k := 0) (v := sp0) (by omega) (by first | decide | assumption) rfl d_History_dropOldest_5 ?_
  refine lv_astore_n (lv' := [(1, .ref sp0), (0, .ref h)]) hx hb d_History_dropOldest_6 rfl hl (by decide) rfl (fun ls hl => ?_)
  refine lv_iconst (v := 1) hx hb d_History_dropOldest_7 (by decide) ?_
  refine lv_istore_n (lv' := [(2, .int 1), (1, .ref sp0), (0, .ref h)]) hx hb d_History_dropOldest_8 rfl hl (by decide) rfl (fun ls hl => ?_)
  refine lv_iload_n hx hb d_History_dropOldest_9 rfl (lv_at hl 0 rfl) ?_
  refine lv_iconst (v := 3) hx hb d_History_dropOldest_10 (by decide) ?_
  refine lv_icmp_ge hx hb d_History_dropOldest_11 (tgt := 34) (by decide) (fun hz => absurd hz (by decide)) (fun _ => ?_)
  refine lv_aload_n hx hb d_History_dropOldest_14 rfl (lv_at hl 2 rfl) ?_
  refine va_get (D := D) (ci := 1) (v := .ref pt) (C := "TaleMachine$History") (T := F_History) (N := 4) hx hb hts in_History hown hK hP 0 rfl rfl 0 (by decide) (hts _ k_88) (fun _ h9 => h9) rfl d_History_dropOldest_15 ?_
  refine lv_iload_n hx hb d_History_dropOldest_18 rfl (lv_at hl 0 rfl) ?_
  refine lv_iconst (v := 1) hx hb d_History_dropOldest_19 (by decide) ?_
  refine lv_isub hx hb d_History_dropOldest_20 ?_
  refine lv_topi (fun z1 hz1 => ?_)
  obtain rfl : z1 = 0 := hz1.trans (by decide)
  refine lv_aload_n hx hb d_History_dropOldest_21 rfl (lv_at hl 2 rfl) ?_
  refine va_get (D := D) (ci := 1) (v := .ref pt) (C := "TaleMachine$History") (T := F_History) (N := 4) hx hb hts in_History hown hK hP 0 rfl rfl 0 (by decide) (hts _ k_88) (fun _ h9 => h9) rfl d_History_dropOldest_22 ?_
  refine lv_iload_n hx hb d_History_dropOldest_25 rfl (lv_at hl 0 rfl) ?_
  refine qa_ld hx hb hK hP 1 3 rfl rfl (k := 1) (v := sp1) (by omega) (by first | decide | assumption) rfl d_History_dropOldest_26 ?_
  refine va_astq (r := ("TaleMachine$State", F_State, 3)) hx hb hK hP hD hS 1 3 6 3 rfl rfl rfl rfl (i := 0) (in_c (by decide)) d_History_dropOldest_27 (fun H locs hP hD hS => ?_)
  rw [t3_0] at hP hD
  have hP : va_P D cL [(h, .inr (1, [.ref pt, .ref sv, .ref is_, .int 3])), (pt, .inl (cS, 3, .inr (.inr (.inr (.inr (T3 sp1 sp1 sp2)))))), (sp0, .inr (3, [.ref sk0, .ref si0, .ref sr0])), (sk0, .inl (cI, 256, .inl gk0)), (si0, .inl (cI, 256, .inl gi0)), (sr0, .inl (cI, 16, .inl gr0)), (sp1, .inr (3, [.ref sk1, .ref si1, .ref sr1])), (sk1, .inl (cI, 256, .inl gk1)), (si1, .inl (cI, 256, .inl gi1)), (sr1, .inl (cI, 16, .inl gr1)), (sp2, .inr (3, [.ref sk2, .ref si2, .ref sr2])), (sk2, .inl (cI, 256, .inl gk2)), (si2, .inl (cI, 256, .inl gi2)), (sr2, .inl (cI, 16, .inl gr2))] H := hP
  have hD : va_D A [(h, .inr (1, [.ref pt, .ref sv, .ref is_, .int 3])), (pt, .inl (cS, 3, .inr (.inr (.inr (.inr (T3 sp1 sp1 sp2)))))), (sp0, .inr (3, [.ref sk0, .ref si0, .ref sr0])), (sk0, .inl (cI, 256, .inl gk0)), (si0, .inl (cI, 256, .inl gi0)), (sr0, .inl (cI, 16, .inl gr0)), (sp1, .inr (3, [.ref sk1, .ref si1, .ref sr1])), (sk1, .inl (cI, 256, .inl gk1)), (si1, .inl (cI, 256, .inl gi1)), (sr1, .inl (cI, 16, .inl gr1)), (sp2, .inr (3, [.ref sk2, .ref si2, .ref sr2])), (sk2, .inl (cI, 256, .inl gk2)), (si2, .inl (cI, 256, .inl gi2)), (sr2, .inl (cI, 16, .inl gr2))] := hD
  refine lv_iinc (v := 2) (lv' := [(2, .int 2), (1, .ref sp0), (0, .ref h)]) hx hb d_History_dropOldest_28 hl (k := 0) rfl (by decide) (by decide) rfl (fun ls hl => ?_)
  refine lv_goto hx hb d_History_dropOldest_31 (tgt := 9) (by decide) ?_
  refine lv_iload_n hx hb d_History_dropOldest_9 rfl (lv_at hl 0 rfl) ?_
  refine lv_iconst (v := 3) hx hb d_History_dropOldest_10 (by decide) ?_
  refine lv_icmp_ge hx hb d_History_dropOldest_11 (tgt := 34) (by decide) (fun hz => absurd hz (by decide)) (fun _ => ?_)
  refine lv_aload_n hx hb d_History_dropOldest_14 rfl (lv_at hl 2 rfl) ?_
  refine va_get (D := D) (ci := 1) (v := .ref pt) (C := "TaleMachine$History") (T := F_History) (N := 4) hx hb hts in_History hown hK hP 0 rfl rfl 0 (by decide) (hts _ k_88) (fun _ h9 => h9) rfl d_History_dropOldest_15 ?_
  refine lv_iload_n hx hb d_History_dropOldest_18 rfl (lv_at hl 0 rfl) ?_
  refine lv_iconst (v := 1) hx hb d_History_dropOldest_19 (by decide) ?_
  refine lv_isub hx hb d_History_dropOldest_20 ?_
  refine lv_topi (fun z2 hz2 => ?_)
  obtain rfl : z2 = 1 := hz2.trans (by decide)
  refine lv_aload_n hx hb d_History_dropOldest_21 rfl (lv_at hl 2 rfl) ?_
  refine va_get (D := D) (ci := 1) (v := .ref pt) (C := "TaleMachine$History") (T := F_History) (N := 4) hx hb hts in_History hown hK hP 0 rfl rfl 0 (by decide) (hts _ k_88) (fun _ h9 => h9) rfl d_History_dropOldest_22 ?_
  refine lv_iload_n hx hb d_History_dropOldest_25 rfl (lv_at hl 0 rfl) ?_
  refine qa_ld hx hb hK hP 1 3 rfl rfl (k := 2) (v := sp2) (by omega) (by first | decide | assumption) rfl d_History_dropOldest_26 ?_
  refine va_astq (r := ("TaleMachine$State", F_State, 3)) hx hb hK hP hD hS 1 3 10 3 rfl rfl rfl rfl (i := 1) (in_c (by decide)) d_History_dropOldest_27 (fun H locs hP hD hS => ?_)
  rw [t3_1] at hP hD
  have hP : va_P D cL [(h, .inr (1, [.ref pt, .ref sv, .ref is_, .int 3])), (pt, .inl (cS, 3, .inr (.inr (.inr (.inr (T3 sp1 sp2 sp2)))))), (sp0, .inr (3, [.ref sk0, .ref si0, .ref sr0])), (sk0, .inl (cI, 256, .inl gk0)), (si0, .inl (cI, 256, .inl gi0)), (sr0, .inl (cI, 16, .inl gr0)), (sp1, .inr (3, [.ref sk1, .ref si1, .ref sr1])), (sk1, .inl (cI, 256, .inl gk1)), (si1, .inl (cI, 256, .inl gi1)), (sr1, .inl (cI, 16, .inl gr1)), (sp2, .inr (3, [.ref sk2, .ref si2, .ref sr2])), (sk2, .inl (cI, 256, .inl gk2)), (si2, .inl (cI, 256, .inl gi2)), (sr2, .inl (cI, 16, .inl gr2))] H := hP
  have hD : va_D A [(h, .inr (1, [.ref pt, .ref sv, .ref is_, .int 3])), (pt, .inl (cS, 3, .inr (.inr (.inr (.inr (T3 sp1 sp2 sp2)))))), (sp0, .inr (3, [.ref sk0, .ref si0, .ref sr0])), (sk0, .inl (cI, 256, .inl gk0)), (si0, .inl (cI, 256, .inl gi0)), (sr0, .inl (cI, 16, .inl gr0)), (sp1, .inr (3, [.ref sk1, .ref si1, .ref sr1])), (sk1, .inl (cI, 256, .inl gk1)), (si1, .inl (cI, 256, .inl gi1)), (sr1, .inl (cI, 16, .inl gr1)), (sp2, .inr (3, [.ref sk2, .ref si2, .ref sr2])), (sk2, .inl (cI, 256, .inl gk2)), (si2, .inl (cI, 256, .inl gi2)), (sr2, .inl (cI, 16, .inl gr2))] := hD
  refine lv_iinc (v := 3) (lv' := [(2, .int 3), (1, .ref sp0), (0, .ref h)]) hx hb d_History_dropOldest_28 hl (k := 0) rfl (by decide) (by decide) rfl (fun ls hl => ?_)
  refine lv_goto hx hb d_History_dropOldest_31 (tgt := 9) (by decide) ?_
  refine lv_iload_n hx hb d_History_dropOldest_9 rfl (lv_at hl 0 rfl) ?_
  refine lv_iconst (v := 3) hx hb d_History_dropOldest_10 (by decide) ?_
  refine lv_icmp_ge hx hb d_History_dropOldest_11 (tgt := 34) (by decide) (fun _ => ?_) (fun hz => absurd (by decide) hz)
  refine lv_aload_n hx hb d_History_dropOldest_34 rfl (lv_at hl 2 rfl) ?_
  refine va_get (D := D) (ci := 1) (v := .ref pt) (C := "TaleMachine$History") (T := F_History) (N := 4) hx hb hts in_History hown hK hP 0 rfl rfl 0 (by decide) (hts _ k_88) (fun _ h9 => h9) rfl d_History_dropOldest_35 ?_
  refine lv_iconst (v := 2) hx hb d_History_dropOldest_38 (by decide) ?_
  refine lv_aload_n hx hb d_History_dropOldest_39 rfl (lv_at hl 1 rfl) ?_
  refine va_astq (r := ("TaleMachine$State", F_State, 3)) hx hb hK hP hD hS 1 3 2 3 rfl rfl rfl rfl (i := 2) (in_c (by decide)) d_History_dropOldest_40 (fun H locs hP hD hS => ?_)
  rw [t3_2] at hP hD
  have hP : va_P D cL [(h, .inr (1, [.ref pt, .ref sv, .ref is_, .int 3])), (pt, .inl (cS, 3, .inr (.inr (.inr (.inr (T3 sp1 sp2 sp0)))))), (sp0, .inr (3, [.ref sk0, .ref si0, .ref sr0])), (sk0, .inl (cI, 256, .inl gk0)), (si0, .inl (cI, 256, .inl gi0)), (sr0, .inl (cI, 16, .inl gr0)), (sp1, .inr (3, [.ref sk1, .ref si1, .ref sr1])), (sk1, .inl (cI, 256, .inl gk1)), (si1, .inl (cI, 256, .inl gi1)), (sr1, .inl (cI, 16, .inl gr1)), (sp2, .inr (3, [.ref sk2, .ref si2, .ref sr2])), (sk2, .inl (cI, 256, .inl gk2)), (si2, .inl (cI, 256, .inl gi2)), (sr2, .inl (cI, 16, .inl gr2))] H := hP
  have hD : va_D A [(h, .inr (1, [.ref pt, .ref sv, .ref is_, .int 3])), (pt, .inl (cS, 3, .inr (.inr (.inr (.inr (T3 sp1 sp2 sp0)))))), (sp0, .inr (3, [.ref sk0, .ref si0, .ref sr0])), (sk0, .inl (cI, 256, .inl gk0)), (si0, .inl (cI, 256, .inl gi0)), (sr0, .inl (cI, 16, .inl gr0)), (sp1, .inr (3, [.ref sk1, .ref si1, .ref sr1])), (sk1, .inl (cI, 256, .inl gk1)), (si1, .inl (cI, 256, .inl gi1)), (sr1, .inl (cI, 16, .inl gr1)), (sp2, .inr (3, [.ref sk2, .ref si2, .ref sr2])), (sk2, .inl (cI, 256, .inl gk2)), (si2, .inl (cI, 256, .inl gi2)), (sr2, .inl (cI, 16, .inl gr2))] := hD
  refine lv_aload_n hx hb d_History_dropOldest_41 rfl (lv_at hl 2 rfl) ?_
  refine lv_dup hx hb d_History_dropOldest_42 rfl ?_
  refine va_get (D := D) (ci := 1) (v := .int 3) (C := "TaleMachine$History") (T := F_History) (N := 4) hx hb hts in_History hown hK hP 0 rfl rfl 3 (by decide) (hts _ k_91) (fun _ h9 => h9) rfl d_History_dropOldest_43 ?_
  refine lv_iconst (v := 1) hx hb d_History_dropOldest_46 (by decide) ?_
  refine lv_isub hx hb d_History_dropOldest_47 ?_
  refine lv_topi (fun z3 hz3 => ?_)
  obtain rfl : z3 = 2 := hz3.trans (by decide)
  refine va_put (D := D) (ci := 1) (v := .int 2) (ty := .int) (C := "TaleMachine$History") (T := F_History) (N := 4) hx hb hts in_History t_History t_History_ok n_History hown hK hP hD hS 0 rfl rfl 3 (by decide) (hts _ k_91) (fun _ h9 => h9) rfl (by decide +kernel) rfl rfl (Nat.le_of_ble_eq_true rfl) d_History_dropOldest_48 (fun H locs hP hD hS => ?_)
  have hP : va_P D cL [(h, .inr (1, [.ref pt, .ref sv, .ref is_, .int 2])), (pt, .inl (cS, 3, .inr (.inr (.inr (.inr (T3 sp1 sp2 sp0)))))), (sp0, .inr (3, [.ref sk0, .ref si0, .ref sr0])), (sk0, .inl (cI, 256, .inl gk0)), (si0, .inl (cI, 256, .inl gi0)), (sr0, .inl (cI, 16, .inl gr0)), (sp1, .inr (3, [.ref sk1, .ref si1, .ref sr1])), (sk1, .inl (cI, 256, .inl gk1)), (si1, .inl (cI, 256, .inl gi1)), (sr1, .inl (cI, 16, .inl gr1)), (sp2, .inr (3, [.ref sk2, .ref si2, .ref sr2])), (sk2, .inl (cI, 256, .inl gk2)), (si2, .inl (cI, 256, .inl gi2)), (sr2, .inl (cI, 16, .inl gr2))] H := hP
  have hD : va_D A [(h, .inr (1, [.ref pt, .ref sv, .ref is_, .int 2])), (pt, .inl (cS, 3, .inr (.inr (.inr (.inr (T3 sp1 sp2 sp0)))))), (sp0, .inr (3, [.ref sk0, .ref si0, .ref sr0])), (sk0, .inl (cI, 256, .inl gk0)), (si0, .inl (cI, 256, .inl gi0)), (sr0, .inl (cI, 16, .inl gr0)), (sp1, .inr (3, [.ref sk1, .ref si1, .ref sr1])), (sk1, .inl (cI, 256, .inl gk1)), (si1, .inl (cI, 256, .inl gi1)), (sr1, .inl (cI, 16, .inl gr1)), (sp2, .inr (3, [.ref sk2, .ref si2, .ref sr2])), (sk2, .inl (cI, 256, .inl gk2)), (si2, .inl (cI, 256, .inl gi2)), (sr2, .inl (cI, 16, .inl gr2))] := hD
  exact end_v hx hb hr hlocks hS (u := ()) (at_end (hP.sub (ws' := [(h, .inr (1, [.ref pt, .ref sv, .ref is_, .int 2])), (pt, .inl (cS, 3, .inr (.inr (.inr (.inr (T3 sp1 sp2 sp0)))))), (sp0, .inr (3, [.ref sk0, .ref si0, .ref sr0])), (sk0, .inl (cI, 256, .inl gk0)), (si0, .inl (cI, 256, .inl gi0)), (sr0, .inl (cI, 16, .inl gr0)), (sp1, .inr (3, [.ref sk1, .ref si1, .ref sr1])), (sk1, .inl (cI, 256, .inl gk1)), (si1, .inl (cI, 256, .inl gi1)), (sr1, .inl (cI, 16, .inl gr1)), (sp2, .inr (3, [.ref sk2, .ref si2, .ref sr2])), (sk2, .inl (cI, 256, .inl gk2)), (si2, .inl (cI, 256, .inl gi2)), (sr2, .inl (cI, 16, .inl gr2))]) [0, 1, 2, 3, 4, 5, 6, 7, 8, 9, 10, 11, 12, 13] rfl) (hD.sub (ws' := [(h, .inr (1, [.ref pt, .ref sv, .ref is_, .int 2])), (pt, .inl (cS, 3, .inr (.inr (.inr (.inr (T3 sp1 sp2 sp0)))))), (sp0, .inr (3, [.ref sk0, .ref si0, .ref sr0])), (sk0, .inl (cI, 256, .inl gk0)), (si0, .inl (cI, 256, .inl gi0)), (sr0, .inl (cI, 16, .inl gr0)), (sp1, .inr (3, [.ref sk1, .ref si1, .ref sr1])), (sk1, .inl (cI, 256, .inl gk1)), (si1, .inl (cI, 256, .inl gi1)), (sr1, .inl (cI, 16, .inl gr1)), (sp2, .inr (3, [.ref sk2, .ref si2, .ref sr2])), (sk2, .inl (cI, 256, .inl gk2)), (si2, .inl (cI, 256, .inl gi2)), (sr2, .inl (cI, 16, .inl gr2))]) [0, 1, 2, 3, 4, 5, 6, 7, 8, 9, 10, 11, 12, 13] (by decide) rfl)) (trivial) (Nat.le_of_ble_eq_true rfl) (Nat.le_of_ble_eq_true rfl) d_History_dropOldest_51
