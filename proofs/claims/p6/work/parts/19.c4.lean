set_option maxHeartbeats 4000000 in
set_option maxRecDepth 100000 in
theorem w_make (l : Launch) (D : va_G) (cI cZ cJ : ClassId) (h st fl fn li rc kd it pa : Nat) (fx le rn_ : Nat) (rb : Int32) (pr : Int32) (fkd fit fpa : Nat → Int32) (sz : Nat)  : Met l y_World_make (.code y_World_make prog_8_method_10_code 3 (some .int) :: AW) ({ frames := 2, cells := 0, slots := 0, locals := 46 }) (va_Pc [.ref h, .int pr] (pre_ D [(h, .inr (6, [.ref st, .int (nI fx), .ref fl, .ref fn, .ref li, .int (nI le), .ref rc, .int (nI rn_), .int rb])), (st, .inr (3, [.ref kd, .ref it, .ref pa])), (kd, .inl (cI, 256, .inl fkd)), (it, .inl (cI, 256, .inl fit)), (pa, .inl (cI, 16, .inl fpa))] [(cI, .int), (cZ, .boolean), (cJ, .long)] sz)) (va_Qi (fun (r : Int32) (u : (Nat → Int32) × (Nat → Int32) × (Nat → Int32)) => (r = -1 ∧ u.1 = fpa) ∨ ∃ j, j < 16 ∧ r = nI (16 + j) ∧ fpa j = -1 ∧ u.1 = upd fpa j pr) (fun u t => match u with | (g0, g1, g2) => post_ D (va_A [(h, .inr (6, [.ref st, .int (nI fx), .ref fl, .ref fn, .ref li, .int (nI le), .ref rc, .int (nI rn_), .int rb])), (st, .inr (3, [.ref kd, .ref it, .ref pa])), (kd, .inl (cI, 256, .inl fkd)), (it, .inl (cI, 256, .inl fit)), (pa, .inl (cI, 16, .inl fpa))] sz) [(h, .inr (6, [.ref st, .int (nI fx), .ref fl, .ref fn, .ref li, .int (nI le), .ref rc, .int (nI rn_), .int rb])), (st, .inr (3, [.ref kd, .ref it, .ref pa])), (pa, .inl (cI, 16, .inl g0)), (kd, .inl (cI, 256, .inl g1)), (it, .inl (cI, 256, .inl g2))] t) (va_A [(h, .inr (6, [.ref st, .int (nI fx), .ref fl, .ref fn, .ref li, .int (nI le), .ref rc, .int (nI rn_), .int rb])), (st, .inr (3, [.ref kd, .ref it, .ref pa])), (kd, .inl (cI, 256, .inl fkd)), (it, .inl (cI, 256, .inl fit)), (pa, .inl (cI, 16, .inl fpa))] sz)) 0 0 (va_A [(h, .inr (6, [.ref st, .int (nI fx), .ref fl, .ref fn, .ref li, .int (nI le), .ref rc, .int (nI rn_), .int rb])), (st, .inr (3, [.ref kd, .ref it, .ref pa])), (kd, .inl (cI, 256, .inl fkd)), (it, .inl (cI, 256, .inl fit)), (pa, .inl (cI, 16, .inl fpa))] sz) := by
  refine Met.ofW (cc := prog_8_method_10_code) (maxL := 3) (ret := (some .int)) (by decide) rfl ?_
  intro p e s m args below meth c s₁ B hml hv
  obtain ⟨rfl, rfl, hP, hK, hD0, hT⟩ := hv
  have hx := B.exec
  have hb := B.bytes
  have hr := B.returns
  have hts0 := atoms_spec (ws := .code y_World_make prog_8_method_10_code 3 (some .int) :: AW) B.pre
  have hts : ∀ w ∈ AW, w.before [.ref h, .int pr].toArray s = true := fun w h => hts0 w (List.mem_cons_of_mem _ h)
  have hown : s.vm.findClass "TaleMachine$World" = some m.cls := findClass_of_methodNamed B.named
  have hlocks := B.notSynchronized
  have hD := hD0.self (sz := s.heap.size)
  generalize hAe : va_A [(h, .inr (6, [.ref st, .int (nI fx), .ref fl, .ref fn, .ref li, .int (nI le), .ref rc, .int (nI rn_), .int rb])), (st, .inr (3, [.ref kd, .ref it, .ref pa])), (kd, .inl (cI, 256, .inl fkd)), (it, .inl (cI, 256, .inl fit)), (pa, .inl (cI, 16, .inl fpa))] s.heap.size = A at hD ⊢
  have hA : ∀ q : Nat, s.heap.size ≤ q → A q := fun q h => by rw [← hAe]; exact Or.inr h
  have hS : va_S A s.heap s.heap [] := va_S.rf
  have hl := lv_entry ([.ref h, .int pr]) (n := 3) (Nat.le_of_ble_eq_true rfl)
  rw [lg_entry_eq]
  generalize (lg_sl ([.ref h, .int pr]) ++ List.replicate (3 - (lg_sl ([.ref h, .int pr])).length) Slot.unset).toArray = ls at hl ⊢
  have hl : lv_has ls 3 [(0, .ref h), (1, .int pr)] := hl
  refine lv_iconst (v := 0) hx hb d_World_make_0 (by decide) ?_
  refine lv_istore_n (lv' := [(2, .int 0), (0, .ref h), (1, .int pr)]) hx hb d_World_make_1 rfl hl (by decide) rfl (fun ls hl => ?_)
  refine lp_W (I := fun k1 H locs ls => (True) ∧ va_P D cL [(h, .inr (6, [.ref st, .int (nI fx), .ref fl, .ref fn, .ref li, .int (nI le), .ref rc, .int (nI rn_), .int rb])), (st, .inr (3, [.ref kd, .ref it, .ref pa])), (kd, .inl (cI, 256, .inl fkd)), (it, .inl (cI, 256, .inl fit)), (pa, .inl (cI, 16, .inl fpa))] H ∧ va_D A [(h, .inr (6, [.ref st, .int (nI fx), .ref fl, .ref fn, .ref li, .int (nI le), .ref rc, .int (nI rn_), .int rb])), (st, .inr (3, [.ref kd, .ref it, .ref pa])), (kd, .inl (cI, 256, .inl fkd)), (it, .inl (cI, 256, .inl fit)), (pa, .inl (cI, 16, .inl fpa))] ∧ va_S A s.heap H locs ∧ lv_has ls 3 [(2, .int (nI k1)), (0, .ref h), (1, .int pr)]) (a := 0) (b := 16) (by omega) ?_ _ _ _ ⟨trivial, hP, hD, hS, lv_sub hl [0, 1, 2] rfl⟩
  intro k1 H locs ls hkak1 hkbk1 hI ih2
  obtain ⟨hIk1, hP, hD, hS, hl⟩ := hI
  rcases Nat.lt_or_ge k1 16 with hkk1 | hkk1
  · refine lv_iload_n hx hb d_World_make_2 rfl (lv_at hl 0 rfl) ?_
    refine lv_bipush (v := 16) hx hb d_World_make_3 (by decide) ?_
    refine lv_icmp_ge hx hb d_World_make_5 (tgt := 50) (by decide) (fun hc3 => ?_) (fun hc3 => ?_)
    · have hc3N : 16 ≤ k1 := (nI_leI (a := 16) (b := k1) (by omega) (by omega)).mp hc3
      exact absurd hc3N (by omega)
    · have hc3N : ¬ 16 ≤ k1 := fun z9 => hc3 ((nI_leI (a := 16) (b := k1) (by omega) (by omega)).mpr z9)
      refine lv_aload_n hx hb d_World_make_8 rfl (lv_at hl 1 rfl) ?_
      refine va_get (D := D) (ci := 6) (v := .ref st) (C := "TaleMachine$World") (T := F_World) (N := 9) hx hb hts in_World hown hK hP 0 rfl rfl 0 (by decide) (hts _ k_60) (fun _ h9 => h9) rfl d_World_make_9 ?_
      refine va_get (D := D) (ci := 3) (v := .ref pa) (C := "TaleMachine$State") (T := F_State) (N := 3) hx hb hts in_State hown hK hP 1 rfl rfl 2 (by decide) (hts _ k_56) (fun _ h9 => h9) rfl d_World_make_12 ?_
      refine lv_iload_n hx hb d_World_make_15 rfl (lv_at hl 0 rfl) ?_
      refine ia_ld hx hb hK hP 4 0 rfl rfl (k := k1) (by omega) (by first | decide | assumption) d_World_make_16 ?_
      refine lv_iconst (v := (-1)) hx hb d_World_make_17 (by decide) ?_
      refine lv_icmp_ne hx hb d_World_make_18 (tgt := 44) (by decide) (fun hc4 => ?_) (fun hc4 => ?_)
      · refine lv_iinc (v := (nI (k1 + 1))) (lv' := [(2, .int (nI (k1 + 1))), (0, .ref h), (1, .int pr)]) hx hb d_World_make_44 hl (k := 0) rfl (nI_1 k1) (by decide) rfl (fun ls hl => ?_)
        refine lv_goto hx hb d_World_make_47 (tgt := 2) (by decide) ?_
        exact ih2 hkk1 _ _ _ ⟨trivial, hP, hD, hS, lv_sub hl [0, 1, 2] rfl⟩
      · refine lv_aload_n hx hb d_World_make_21 rfl (lv_at hl 1 rfl) ?_
        refine va_get (D := D) (ci := 6) (v := .ref st) (C := "TaleMachine$World") (T := F_World) (N := 9) hx hb hts in_World hown hK hP 0 rfl rfl 0 (by decide) (hts _ k_60) (fun _ h9 => h9) rfl d_World_make_22 ?_
        refine va_get (D := D) (ci := 3) (v := .ref pa) (C := "TaleMachine$State") (T := F_State) (N := 3) hx hb hts in_State hown hK hP 1 rfl rfl 2 (by decide) (hts _ k_56) (fun _ h9 => h9) rfl d_World_make_25 ?_
        refine lv_iload_n hx hb d_World_make_28 rfl (lv_at hl 0 rfl) ?_
        refine lv_iload_n hx hb d_World_make_29 rfl (lv_at hl 2 rfl) ?_
        refine ia_st hx hb hK hP hD hS 4 0 rfl rfl (k := k1) (x := pr) (by omega) (by first | decide | assumption) d_World_make_30 (fun H locs hP hD hS => ?_)
        have hP : va_P D cL [(h, .inr (6, [.ref st, .int (nI fx), .ref fl, .ref fn, .ref li, .int (nI le), .ref rc, .int (nI rn_), .int rb])), (st, .inr (3, [.ref kd, .ref it, .ref pa])), (kd, .inl (cI, 256, .inl fkd)), (it, .inl (cI, 256, .inl fit)), (pa, .inl (cI, 16, .inl (upd fpa k1 pr)))] H := hP
        have hD : va_D A [(h, .inr (6, [.ref st, .int (nI fx), .ref fl, .ref fn, .ref li, .int (nI le), .ref rc, .int (nI rn_), .int rb])), (st, .inr (3, [.ref kd, .ref it, .ref pa])), (kd, .inl (cI, 256, .inl fkd)), (it, .inl (cI, 256, .inl fit)), (pa, .inl (cI, 16, .inl (upd fpa k1 pr)))] := hD
        refine lv_aload_n hx hb d_World_make_31 rfl (lv_at hl 1 rfl) ?_
        refine lv_bipush (v := 16) hx hb d_World_make_32 (by decide) ?_
        refine lv_iload_n hx hb d_World_make_34 rfl (lv_at hl 0 rfl) ?_
        refine lv_iadd hx hb d_World_make_35 ?_
        refine lv_topi (fun z5 hz5 => ?_)
        obtain rfl : z5 = nI (16 + k1) := hz5.trans (nI_add 16 k1)
        refine mv_v (va_runV (C := "TaleMachine$World") (As := [.int (nI (16 + k1))]) (rest := []) ⟨hx, hb, hml, hown, hts⟩ (w_clearOwn l D cI cZ cJ h st fl fn li rc kd it pa fx le rn_ rb (16 + k1) fkd fit _ (by first | assumption | omega | decide)) (cwV 1 hts (gInV k_382 k_383 k_889 k_3 k_384) rfl rfl rfl (by decide +kernel) ⟨Nat.le_of_ble_eq_true rfl, Nat.le_of_ble_eq_true rfl⟩) (pre_V (va_recv hK hP (q := ("TaleMachine$World", F_World, 9)) rfl (q0 := 0) rfl) (hP.sub [0, 1, 2, 3] rfl) (hK.sub [0, 1, 2] rfl) (hD.sub [0, 1, 2, 3] (by decide) rfl) hT) rfl rfl hl.1 rfl (lv_room (Nat.le_of_ble_eq_true rfl)) d_World_make_36 ⟨Nat.le_of_ble_eq_true rfl, Nat.le_of_ble_eq_true rfl⟩) hP hD hS hA [0, 1, 2, 3] [4] rfl rfl (by decide) (by decide) (wr := [(pa, .inl (cI, 16, .inl (upd fpa k1 pr)))]) (wn := fun u => match u with | (g1, g2) => [(h, .inr (6, [.ref st, .int (nI fx), .ref fl, .ref fn, .ref li, .int (nI le), .ref rc, .int (nI rn_), .int rb])), (st, .inr (3, [.ref kd, .ref it, .ref pa])), (kd, .inl (cI, 256, .inl g1)), (it, .inl (cI, 256, .inl g2))]) (fun _ _ h9 => h9) (fun u H locs hp9 hP hD hS => ?_)
        obtain ⟨a6, a7⟩ := u
        have hP : va_P D cL [(pa, .inl (cI, 16, .inl (upd fpa k1 pr))), (h, .inr (6, [.ref st, .int (nI fx), .ref fl, .ref fn, .ref li, .int (nI le), .ref rc, .int (nI rn_), .int rb])), (st, .inr (3, [.ref kd, .ref it, .ref pa])), (kd, .inl (cI, 256, .inl a6)), (it, .inl (cI, 256, .inl a7))] H := hP
        have hD : va_D A [(pa, .inl (cI, 16, .inl (upd fpa k1 pr))), (h, .inr (6, [.ref st, .int (nI fx), .ref fl, .ref fn, .ref li, .int (nI le), .ref rc, .int (nI rn_), .int rb])), (st, .inr (3, [.ref kd, .ref it, .ref pa])), (kd, .inl (cI, 256, .inl a6)), (it, .inl (cI, 256, .inl a7))] := hD
        refine lv_bipush (v := 16) hx hb d_World_make_39 (by decide) ?_
        refine lv_iload_n hx hb d_World_make_41 rfl (lv_at hl 0 rfl) ?_
        refine lv_iadd hx hb d_World_make_42 ?_
        refine lv_topi (fun z10 hz10 => ?_)
        obtain rfl : z10 = nI (16 + k1) := hz10.trans (nI_add 16 k1)
        exact end_i hx hb hr hlocks hS (u := (upd fpa k1 pr, a6, a7)) (r := (nI (16 + k1))) (at_end (hP.sub (ws' := [(h, .inr (6, [.ref st, .int (nI fx), .ref fl, .ref fn, .ref li, .int (nI le), .ref rc, .int (nI rn_), .int rb])), (st, .inr (3, [.ref kd, .ref it, .ref pa])), (pa, .inl (cI, 16, .inl (upd fpa k1 pr))), (kd, .inl (cI, 256, .inl a6)), (it, .inl (cI, 256, .inl a7))]) [1, 2, 0, 3, 4] rfl) (hD.sub (ws' := [(h, .inr (6, [.ref st, .int (nI fx), .ref fl, .ref fn, .ref li, .int (nI le), .ref rc, .int (nI rn_), .int rb])), (st, .inr (3, [.ref kd, .ref it, .ref pa])), (pa, .inl (cI, 16, .inl (upd fpa k1 pr))), (kd, .inl (cI, 256, .inl a6)), (it, .inl (cI, 256, .inl a7))]) [1, 2, 0, 3, 4] (by decide) rfl)) (Or.inr ⟨k1, by omega, rfl, hc4, rfl⟩) (Nat.le_of_ble_eq_true rfl) (Nat.le_of_ble_eq_true rfl) d_World_make_43
  · have hkk1 : k1 = 16 := by omega
    refine lv_iload_n hx hb d_World_make_2 rfl (lv_at hl 0 rfl) ?_
    refine lv_bipush (v := 16) hx hb d_World_make_3 (by decide) ?_
    refine lv_icmp_ge hx hb d_World_make_5 (tgt := 50) (by decide) (fun hc11 => ?_) (fun hc11 => ?_)
    · have hc11N : 16 ≤ k1 := (nI_leI (a := 16) (b := k1) (by omega) (by omega)).mp hc11
      refine lv_iconst (v := (-1)) hx hb d_World_make_50 (by decide) ?_
      exact end_i hx hb hr hlocks hS (u := (fpa, fkd, fit)) (r := (-1)) (at_end (hP.sub (ws' := [(h, .inr (6, [.ref st, .int (nI fx), .ref fl, .ref fn, .ref li, .int (nI le), .ref rc, .int (nI rn_), .int rb])), (st, .inr (3, [.ref kd, .ref it, .ref pa])), (pa, .inl (cI, 16, .inl fpa)), (kd, .inl (cI, 256, .inl fkd)), (it, .inl (cI, 256, .inl fit))]) [0, 1, 4, 2, 3] rfl) (hD.sub (ws' := [(h, .inr (6, [.ref st, .int (nI fx), .ref fl, .ref fn, .ref li, .int (nI le), .ref rc, .int (nI rn_), .int rb])), (st, .inr (3, [.ref kd, .ref it, .ref pa])), (pa, .inl (cI, 16, .inl fpa)), (kd, .inl (cI, 256, .inl fkd)), (it, .inl (cI, 256, .inl fit))]) [0, 1, 4, 2, 3] (by decide) rfl)) (Or.inl ⟨rfl, rfl⟩) (Nat.le_of_ble_eq_true rfl) (Nat.le_of_ble_eq_true rfl) d_World_make_51
    · have hc11N : ¬ 16 ≤ k1 := fun z9 => hc11 ((nI_leI (a := 16) (b := k1) (by omega) (by omega)).mpr z9)
      exact absurd hc11N (by omega)
