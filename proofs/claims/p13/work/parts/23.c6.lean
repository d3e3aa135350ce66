set_option maxHeartbeats 4000000 in
set_option maxRecDepth 100000 in
theorem w_holderFrom (l : Launch) (D : va_G) (cI cZ cJ : ClassId) (h st fl fn li rc kd it pa : Nat) (fx le rn_ : Nat) (rb : Int32) (sa pp : Nat) (fkd fli : Nat → Int32) (sz : Nat) (hsa : sa ≤ le) (hle : le ≤ 32) (hp : pp < 8) (hrow : ROW fli le) : Met l y_World_holderFrom (.code y_World_holderFrom prog_8_method_14_code 4 (some .int) :: AW) ({ frames := 1, cells := 0, slots := 0, locals := 22 }) (va_Pc [.ref h, .int (nI sa), .int (nI pp)] (pre_ D [(h, .inr (6, [.ref st, .int (nI fx), .ref fl, .ref fn, .ref li, .int (nI le), .ref rc, .int (nI rn_), .int rb])), (st, .inr (3, [.ref kd, .ref it, .ref pa])), (kd, .inl (cI, 256, .inl fkd)), (li, .inl (cI, 32, .inl fli))] [(cI, .int), (cZ, .boolean), (cJ, .long)] sz)) (va_Qi (fun (r : Int32) (u : Unit) => ON r) (fun _ t => post_ D (va_A [(h, .inr (6, [.ref st, .int (nI fx), .ref fl, .ref fn, .ref li, .int (nI le), .ref rc, .int (nI rn_), .int rb])), (st, .inr (3, [.ref kd, .ref it, .ref pa])), (kd, .inl (cI, 256, .inl fkd)), (li, .inl (cI, 32, .inl fli))] sz) [(h, .inr (6, [.ref st, .int (nI fx), .ref fl, .ref fn, .ref li, .int (nI le), .ref rc, .int (nI rn_), .int rb])), (st, .inr (3, [.ref kd, .ref it, .ref pa])), (kd, .inl (cI, 256, .inl fkd)), (li, .inl (cI, 32, .inl fli))] t) (va_A [(h, .inr (6, [.ref st, .int (nI fx), .ref fl, .ref fn, .ref li, .int (nI le), .ref rc, .int (nI rn_), .int rb])), (st, .inr (3, [.ref kd, .ref it, .ref pa])), (kd, .inl (cI, 256, .inl fkd)), (li, .inl (cI, 32, .inl fli))] sz)) 0 0 (va_A [(h, .inr (6, [.ref st, .int (nI fx), .ref fl, .ref fn, .ref li, .int (nI le), .ref rc, .int (nI rn_), .int rb])), (st, .inr (3, [.ref kd, .ref it, .ref pa])), (kd, .inl (cI, 256, .inl fkd)), (li, .inl (cI, 32, .inl fli))] sz) := by
  refine Met.ofW (cc := prog_8_method_14_code) (maxL := 4) (ret := (some .int)) (by decide) rfl ?_
  intro p e s m args below meth c s₁ B hml hv
  obtain ⟨rfl, rfl, hP, hK, hD0, hT⟩ := hv
  have hx := B.exec
  have hb := B.bytes
  have hr := B.returns
  have hts0 := atoms_spec (ws := .code y_World_holderFrom prog_8_method_14_code 4 (some .int) :: AW) B.pre
  have hts : ∀ w ∈ AW, w.before [.ref h, .int (nI sa), .int (nI pp)].toArray s = true := fun w h => hts0 w (List.mem_cons_of_mem _ h)
  have hown : s.vm.findClass "TaleMachine$World" = some m.cls := findClass_of_methodNamed B.named
  have hlocks := B.notSynchronized
  have hD := hD0.self (sz := s.heap.size)
  generalize hAe : va_A [(h, .inr (6, [.ref st, .int (nI fx), .ref fl, .ref fn, .ref li, .int (nI le), .ref rc, .int (nI rn_), .int rb])), (st, .inr (3, [.ref kd, .ref it, .ref pa])), (kd, .inl (cI, 256, .inl fkd)), (li, .inl (cI, 32, .inl fli))] s.heap.size = A at hD ⊢
  have hA : ∀ q : Nat, s.heap.size ≤ q → A q := fun q h => by rw [← hAe]; exact Or.inr h
  have hS : va_S A s.heap s.heap [] := va_S.rf
  have hl := lv_entry ([.ref h, .int (nI sa), .int (nI pp)]) (n := 4) (Nat.le_of_ble_eq_true rfl)
  rw [lg_entry_eq]
  generalize (lg_sl ([.ref h, .int (nI sa), .int (nI pp)]) ++ List.replicate (4 - (lg_sl ([.ref h, .int (nI sa), .int (nI pp)])).length) Slot.unset).toArray = ls at hl ⊢
  have hl : lv_has ls 4 [(0, .ref h), (1, .int (nI sa)), (2, .int (nI pp))] := hl
  refine lv_iload_n hx hb d_World_holderFrom_0 rfl (lv_at hl 1 rfl) ?_
  refine lv_istore_n (lv' := [(3, .int (nI sa)), (0, .ref h), (1, .int (nI sa)), (2, .int (nI pp))]) hx hb d_World_holderFrom_1 rfl hl (by decide) rfl (fun ls hl => ?_)
  refine lp_W (I := fun k1 H locs ls => (True) ∧ va_P D cL [(h, .inr (6, [.ref st, .int (nI fx), .ref fl, .ref fn, .ref li, .int (nI le), .ref rc, .int (nI rn_), .int rb])), (st, .inr (3, [.ref kd, .ref it, .ref pa])), (kd, .inl (cI, 256, .inl fkd)), (li, .inl (cI, 32, .inl fli))] H ∧ va_D A [(h, .inr (6, [.ref st, .int (nI fx), .ref fl, .ref fn, .ref li, .int (nI le), .ref rc, .int (nI rn_), .int rb])), (st, .inr (3, [.ref kd, .ref it, .ref pa])), (kd, .inl (cI, 256, .inl fkd)), (li, .inl (cI, 32, .inl fli))] ∧ va_S A s.heap H locs ∧ lv_has ls 4 [(3, .int (nI k1)), (0, .ref h), (1, .int (nI sa)), (2, .int (nI pp))]) (a := sa) (b := le) (by omega) ?_ _ _ _ ⟨trivial, hP, hD, hS, lv_sub hl [0, 1, 2, 3] rfl⟩
  intro k1 H locs ls hkak1 hkbk1 hI ih2
  obtain ⟨hIk1, hP, hD, hS, hl⟩ := hI
  rcases Nat.lt_or_ge k1 le with hkk1 | hkk1
  · refine lv_iload_n hx hb d_World_holderFrom_2 rfl (lv_at hl 0 rfl) ?_
    refine lv_aload_n hx hb d_World_holderFrom_3 rfl (lv_at hl 1 rfl) ?_
    refine va_get (D := D) (ci := 6) (v := .int (nI le)) (C := "TaleMachine$World") (T := F_World) (N := 9) hx hb hts in_World hown hK hP 0 rfl rfl 5 (by decide) (hts _ k_67) (fun _ h9 => h9) rfl d_World_holderFrom_4 ?_
    refine lv_icmp_ge hx hb d_World_holderFrom_7 (tgt := 38) (by decide) (fun hc3 => ?_) (fun hc3 => ?_)
    · have hc3N : le ≤ k1 := (nI_leI (a := le) (b := k1) (by omega) (by omega)).mp hc3
      exact absurd hc3N (by omega)
    · have hc3N : ¬ le ≤ k1 := fun z9 => hc3 ((nI_leI (a := le) (b := k1) (by omega) (by omega)).mpr z9)
      refine lv_aload_n hx hb d_World_holderFrom_10 rfl (lv_at hl 1 rfl) ?_
      refine lv_aload_n hx hb d_World_holderFrom_11 rfl (lv_at hl 1 rfl) ?_
      refine va_get (D := D) (ci := 6) (v := .ref li) (C := "TaleMachine$World") (T := F_World) (N := 9) hx hb hts in_World hown hK hP 0 rfl rfl 4 (by decide) (hts _ k_66) (fun _ h9 => h9) rfl d_World_holderFrom_12 ?_
      refine lv_iload_n hx hb d_World_holderFrom_15 rfl (lv_at hl 0 rfl) ?_
      refine ia_ld hx hb hK hP 3 0 rfl rfl (k := k1) (by omega) (by first | decide | assumption) d_World_holderFrom_16 ?_
      obtain ⟨q, hq, hqe⟩ := hrow k1 (by omega)
      refine lv_topi (fun z4 hz4 => ?_)
      obtain rfl : z4 = (nI q) := hz4.trans (hqe)
      refine lv_iload_n hx hb d_World_holderFrom_17 rfl (lv_at hl 3 rfl) ?_
      refine mv_i (va_runV (C := "TaleMachine$World") (As := [.int (nI q), .int (nI pp)]) (rest := []) ⟨hx, hb, hml, hown, hts⟩ (w_ownKind l D cI cZ cJ h st fl fn li rc kd it pa fx le rn_ rb q pp fkd _ (by first | assumption | omega | decide) (by first | assumption | omega | decide)) (cwV 2 hts (gInV k_326 k_327 k_328 k_3 k_329) rfl rfl rfl (by decide +kernel) ⟨Nat.le_of_ble_eq_true rfl, Nat.le_of_ble_eq_true rfl⟩) (pre_V (va_recv hK hP (q := ("TaleMachine$World", F_World, 9)) rfl (q0 := 0) rfl) (hP.sub [0, 1, 2] rfl) (hK.sub [0, 1, 2] rfl) (hD.sub [0, 1, 2] (by decide) rfl) hT) rfl rfl hl.1 rfl (lv_room (Nat.le_of_ble_eq_true rfl)) d_World_holderFrom_18 ⟨Nat.le_of_ble_eq_true rfl, Nat.le_of_ble_eq_true rfl⟩) hP hD hS hA [0, 1, 2] [3] rfl rfl (by decide) (by decide) (wr := [(li, .inl (cI, 32, .inl fli))]) (wn := fun _ => [(h, .inr (6, [.ref st, .int (nI fx), .ref fl, .ref fn, .ref li, .int (nI le), .ref rc, .int (nI rn_), .int rb])), (st, .inr (3, [.ref kd, .ref it, .ref pa])), (kd, .inl (cI, 256, .inl fkd))]) (fun _ _ h9 => h9) (fun r5 _ H locs hp6 hP hD hS => ?_)
      have hP : va_P D cL [(li, .inl (cI, 32, .inl fli)), (h, .inr (6, [.ref st, .int (nI fx), .ref fl, .ref fn, .ref li, .int (nI le), .ref rc, .int (nI rn_), .int rb])), (st, .inr (3, [.ref kd, .ref it, .ref pa])), (kd, .inl (cI, 256, .inl fkd))] H := hP
      have hD : va_D A [(li, .inl (cI, 32, .inl fli)), (h, .inr (6, [.ref st, .int (nI fx), .ref fl, .ref fn, .ref li, .int (nI le), .ref rc, .int (nI rn_), .int rb])), (st, .inr (3, [.ref kd, .ref it, .ref pa])), (kd, .inl (cI, 256, .inl fkd))] := hD
      obtain rfl : r5 = fkd (q * 8 + pp) := hp6
      refine lv_iconst (v := (-1)) hx hb d_World_holderFrom_21 (by decide) ?_
      refine lv_icmp_eq hx hb d_World_holderFrom_22 (tgt := 32) (by decide) (fun hc7 => ?_) (fun hc7 => ?_)
      · refine lv_iinc (v := (nI (k1 + 1))) (lv' := [(3, .int (nI (k1 + 1))), (0, .ref h), (1, .int (nI sa)), (2, .int (nI pp))]) hx hb d_World_holderFrom_32 hl (k := 0) rfl (nI_1 k1) (by decide) rfl (fun ls hl => ?_)
        refine lv_goto hx hb d_World_holderFrom_35 (tgt := 2) (by decide) ?_
        exact ih2 hkk1 _ _ _ ⟨trivial, hP.sub (ws' := [(h, .inr (6, [.ref st, .int (nI fx), .ref fl, .ref fn, .ref li, .int (nI le), .ref rc, .int (nI rn_), .int rb])), (st, .inr (3, [.ref kd, .ref it, .ref pa])), (kd, .inl (cI, 256, .inl fkd)), (li, .inl (cI, 32, .inl fli))]) [1, 2, 3, 0] rfl, hD.sub (ws' := [(h, .inr (6, [.ref st, .int (nI fx), .ref fl, .ref fn, .ref li, .int (nI le), .ref rc, .int (nI rn_), .int rb])), (st, .inr (3, [.ref kd, .ref it, .ref pa])), (kd, .inl (cI, 256, .inl fkd)), (li, .inl (cI, 32, .inl fli))]) [1, 2, 3, 0] (by decide) rfl, hS, lv_sub hl [0, 1, 2, 3] rfl⟩
      · refine lv_aload_n hx hb d_World_holderFrom_25 rfl (lv_at hl 1 rfl) ?_
        refine va_get (D := D) (ci := 6) (v := .ref li) (C := "TaleMachine$World") (T := F_World) (N := 9) hx hb hts in_World hown hK hP 1 rfl rfl 4 (by decide) (hts _ k_66) (fun _ h9 => h9) rfl d_World_holderFrom_26 ?_
        refine lv_iload_n hx hb d_World_holderFrom_29 rfl (lv_at hl 0 rfl) ?_
        refine ia_ld hx hb hK hP 0 0 rfl rfl (k := k1) (by omega) (by first | decide | assumption) d_World_holderFrom_30 ?_
        refine lv_topi (fun z8 hz8 => ?_)
        obtain rfl : z8 = (nI q) := hz8.trans (hqe)
        exact end_i hx hb hr hlocks hS (u := ()) (r := (nI q)) (at_end (hP.sub (ws' := [(h, .inr (6, [.ref st, .int (nI fx), .ref fl, .ref fn, .ref li, .int (nI le), .ref rc, .int (nI rn_), .int rb])), (st, .inr (3, [.ref kd, .ref it, .ref pa])), (kd, .inl (cI, 256, .inl fkd)), (li, .inl (cI, 32, .inl fli))]) [1, 2, 3, 0] rfl) (hD.sub (ws' := [(h, .inr (6, [.ref st, .int (nI fx), .ref fl, .ref fn, .ref li, .int (nI le), .ref rc, .int (nI rn_), .int rb])), (st, .inr (3, [.ref kd, .ref it, .ref pa])), (kd, .inl (cI, 256, .inl fkd)), (li, .inl (cI, 32, .inl fli))]) [1, 2, 3, 0] (by decide) rfl)) (Or.inr ⟨q, hq, rfl⟩) (Nat.le_of_ble_eq_true rfl) (Nat.le_of_ble_eq_true rfl) d_World_holderFrom_31
  · have hkk1 : k1 = le := by omega
    refine lv_iload_n hx hb d_World_holderFrom_2 rfl (lv_at hl 0 rfl) ?_
    refine lv_aload_n hx hb d_World_holderFrom_3 rfl (lv_at hl 1 rfl) ?_
    refine va_get (D := D) (ci := 6) (v := .int (nI le)) (C := "TaleMachine$World") (T := F_World) (N := 9) hx hb hts in_World hown hK hP 0 rfl rfl 5 (by decide) (hts _ k_67) (fun _ h9 => h9) rfl d_World_holderFrom_4 ?_
    refine lv_icmp_ge hx hb d_World_holderFrom_7 (tgt := 38) (by decide) (fun hc9 => ?_) (fun hc9 => ?_)
    · have hc9N : le ≤ k1 := (nI_leI (a := le) (b := k1) (by omega) (by omega)).mp hc9
      refine lv_iconst (v := (-1)) hx hb d_World_holderFrom_38 (by decide) ?_
      exact end_i hx hb hr hlocks hS (u := ()) (r := (-1)) (at_end (hP.sub (ws' := [(h, .inr (6, [.ref st, .int (nI fx), .ref fl, .ref fn, .ref li, .int (nI le), .ref rc, .int (nI rn_), .int rb])), (st, .inr (3, [.ref kd, .ref it, .ref pa])), (kd, .inl (cI, 256, .inl fkd)), (li, .inl (cI, 32, .inl fli))]) [0, 1, 2, 3] rfl) (hD.sub (ws' := [(h, .inr (6, [.ref st, .int (nI fx), .ref fl, .ref fn, .ref li, .int (nI le), .ref rc, .int (nI rn_), .int rb])), (st, .inr (3, [.ref kd, .ref it, .ref pa])), (kd, .inl (cI, 256, .inl fkd)), (li, .inl (cI, 32, .inl fli))]) [0, 1, 2, 3] (by decide) rfl)) (Or.inl rfl) (Nat.le_of_ble_eq_true rfl) (Nat.le_of_ble_eq_true rfl) d_World_holderFrom_39
    · have hc9N : ¬ le ≤ k1 := fun z9 => hc9 ((nI_leI (a := le) (b := k1) (by omega) (by omega)).mpr z9)
      exact absurd hc9N (by omega)

set_option maxHeartbeats 4000000 in
set_option maxRecDepth 100000 in
theorem w_holder (l : Launch) (D : va_G) (cI cZ cJ : ClassId) (h st fl fn li rc kd it pa : Nat) (fx le rn_ : Nat) (rb : Int32) (oo : Int32) (pp : Nat) (fkd fpa ffl ffn fli : Nat → Int32) (sz : Nat) (hfx : fx ≤ 16) (hpa : PAR fpa) (hfn : FLN ffn) (hfl : FLL ffl) (hon : ON oo) (hp : pp < 8) : Met l y_World_holder (.code y_World_holder prog_8_method_15_code 3 (some .int) :: AW) ({ frames := 2, cells := 0, slots := 0, locals := 162 }) (va_Pc [.ref h, .int oo, .int (nI pp)] (pre_ D [(h, .inr (6, [.ref st, .int (nI fx), .ref fl, .ref fn, .ref li, .int (nI le), .ref rc, .int (nI rn_), .int rb])), (st, .inr (3, [.ref kd, .ref it, .ref pa])), (pa, .inl (cI, 16, .inl fpa)), (fl, .inl (cI, 256, .inl ffl)), (fn, .inl (cI, 16, .inl ffn)), (li, .inl (cI, 32, .inl fli)), (kd, .inl (cI, 256, .inl fkd))] [(cI, .int), (cZ, .boolean), (cJ, .long)] sz)) (va_Qi (fun (r : Int32) (u : Nat × (Nat → Int32)) => ON r ∧ u.1 ≤ 32 ∧ ROW u.2 u.1) (fun u t => match u with | (le2, g) => post_ D (va_A [(h, .inr (6, [.ref st, .int (nI fx), .ref fl, .ref fn, .ref li, .int (nI le), .ref rc, .int (nI rn_), .int rb])), (st, .inr (3, [.ref kd, .ref it, .ref pa])), (pa, .inl (cI, 16, .inl fpa)), (fl, .inl (cI, 256, .inl ffl)), (fn, .inl (cI, 16, .inl ffn)), (li, .inl (cI, 32, .inl fli)), (kd, .inl (cI, 256, .inl fkd))] sz) [(h, .inr (6, [.ref st, .int (nI fx), .ref fl, .ref fn, .ref li, .int (nI le2), .ref rc, .int (nI rn_), .int rb])), (st, .inr (3, [.ref kd, .ref it, .ref pa])), (pa, .inl (cI, 16, .inl fpa)), (fl, .inl (cI, 256, .inl ffl)), (fn, .inl (cI, 16, .inl ffn)), (li, .inl (cI, 32, .inl g)), (kd, .inl (cI, 256, .inl fkd))] t) (va_A [(h, .inr (6, [.ref st, .int (nI fx), .ref fl, .ref fn, .ref li, .int (nI le), .ref rc, .int (nI rn_), .int rb])), (st, .inr (3, [.ref kd, .ref it, .ref pa])), (pa, .inl (cI, 16, .inl fpa)), (fl, .inl (cI, 256, .inl ffl)), (fn, .inl (cI, 16, .inl ffn)), (li, .inl (cI, 32, .inl fli)), (kd, .inl (cI, 256, .inl fkd))] sz)) 0 0 (va_A [(h, .inr (6, [.ref st, .int (nI fx), .ref fl, .ref fn, .ref li, .int (nI le), .ref rc, .int (nI rn_), .int rb])), (st, .inr (3, [.ref kd, .ref it, .ref pa])), (pa, .inl (cI, 16, .inl fpa)), (fl, .inl (cI, 256, .inl ffl)), (fn, .inl (cI, 16, .inl ffn)), (li, .inl (cI, 32, .inl fli)), (kd, .inl (cI, 256, .inl fkd))] sz) := by
  refine Met.ofW (cc := prog_8_method_15_code) (maxL := 3) (ret := (some .int)) (by decide) rfl ?_
  intro p e s m args below meth c s₁ B hml hv
  obtain ⟨rfl, rfl, hP, hK, hD0, hT⟩ := hv
  have hx := B.exec
  have hb := B.bytes
  have hr := B.returns
  have hts0 := atoms_spec (ws := .code y_World_holder prog_8_method_15_code 3 (some .int) :: AW) B.pre
  have hts : ∀ w ∈ AW, w.before [.ref h, .int oo, .int (nI pp)].toArray s = true := fun w h => hts0 w (List.mem_cons_of_mem _ h)
  have hown : s.vm.findClass "TaleMachine$World" = some m.cls := findClass_of_methodNamed B.named
  have hlocks := B.notSynchronized
  have hD := hD0.self (sz := s.heap.size)
  generalize hAe : va_A [(h, .inr (6, [.ref st, .int (nI fx), .ref fl, .ref fn, .ref li, .int (nI le), .ref rc, .int (nI rn_), .int rb])), (st, .inr (3, [.ref kd, .ref it, .ref pa])), (pa, .inl (cI, 16, .inl fpa)), (fl, .inl (cI, 256, .inl ffl)), (fn, .inl (cI, 16, .inl ffn)), (li, .inl (cI, 32, .inl fli)), (kd, .inl (cI, 256, .inl fkd))] s.heap.size = A at hD ⊢
  have hA : ∀ q : Nat, s.heap.size ≤ q → A q := fun q h => by rw [← hAe]; exact Or.inr h
  have hS : va_S A s.heap s.heap [] := va_S.rf
  have hl := lv_entry ([.ref h, .int oo, .int (nI pp)]) (n := 3) (Nat.le_of_ble_eq_true rfl)
  rw [lg_entry_eq]
  generalize (lg_sl ([.ref h, .int oo, .int (nI pp)]) ++ List.replicate (3 - (lg_sl ([.ref h, .int oo, .int (nI pp)])).length) Slot.unset).toArray = ls at hl ⊢
  have hl : lv_has ls 3 [(0, .ref h), (1, .int oo), (2, .int (nI pp))] := hl
  refine lv_aload_n hx hb d_World_holder_0 rfl (lv_at hl 0 rfl) ?_
  refine lv_iload_n hx hb d_World_holder_1 rfl (lv_at hl 1 rfl) ?_
  refine mv_v (va_runV (C := "TaleMachine$World") (As := [.int oo]) (rest := []) ⟨hx, hb, hml, hown, hts⟩ (w_lay l D cI cZ cJ h st fl fn li rc kd it pa fx le rn_ rb oo fpa ffl ffn fli _ (by first | assumption | omega | decide) (by first | assumption | omega | decide) (by first | assumption | omega | decide) (by first | assumption | omega | decide) (by first | assumption | omega | decide)) (cwV 1 hts (gInV k_322 k_268 k_269 k_3 k_270) rfl rfl rfl (by decide +kernel) ⟨Nat.le_of_ble_eq_true rfl, Nat.le_of_ble_eq_true rfl⟩) (pre_V (va_recv hK hP (q := ("TaleMachine$World", F_World, 9)) rfl (q0 := 0) rfl) (hP.sub [0, 1, 2, 3, 4, 5] rfl) (hK.sub [0, 1, 2] rfl) (hD.sub [0, 1, 2, 3, 4, 5] (by decide) rfl) hT) rfl rfl hl.1 rfl (lv_room (Nat.le_of_ble_eq_true rfl)) d_World_holder_2 ⟨Nat.le_of_ble_eq_true rfl, Nat.le_of_ble_eq_true rfl⟩) hP hD hS hA [0, 1, 2, 3, 4, 5] [6] rfl rfl (by decide) (by decide) (wr := [(kd, .inl (cI, 256, .inl fkd))]) (wn := fun u => match u with | (le2, g) => [(h, .inr (6, [.ref st, .int (nI fx), .ref fl, .ref fn, .ref li, .int (nI le2), .ref rc, .int (nI rn_), .int rb])), (st, .inr (3, [.ref kd, .ref it, .ref pa])), (pa, .inl (cI, 16, .inl fpa)), (fl, .inl (cI, 256, .inl ffl)), (fn, .inl (cI, 16, .inl ffn)), (li, .inl (cI, 32, .inl g))]) (fun _ _ h9 => h9) (fun u H locs hp4 hP hD hS => ?_)
  obtain ⟨a1, a2⟩ := u
  dsimp only at hp4
  have hP : va_P D cL [(kd, .inl (cI, 256, .inl fkd)), (h, .inr (6, [.ref st, .int (nI fx), .ref fl, .ref fn, .ref li, .int (nI a1), .ref rc, .int (nI rn_), .int rb])), (st, .inr (3, [.ref kd, .ref it, .ref pa])), (pa, .inl (cI, 16, .inl fpa)), (fl, .inl (cI, 256, .inl ffl)), (fn, .inl (cI, 16, .inl ffn)), (li, .inl (cI, 32, .inl a2))] H := hP
  have hD : va_D A [(kd, .inl (cI, 256, .inl fkd)), (h, .inr (6, [.ref st, .int (nI fx), .ref fl, .ref fn, .ref li, .int (nI a1), .ref rc, .int (nI rn_), .int rb])), (st, .inr (3, [.ref kd, .ref it, .ref pa])), (pa, .inl (cI, 16, .inl fpa)), (fl, .inl (cI, 256, .inl ffl)), (fn, .inl (cI, 16, .inl ffn)), (li, .inl (cI, 32, .inl a2))] := hD
  refine lv_aload_n hx hb d_World_holder_5 rfl (lv_at hl 0 rfl) ?_
  refine lv_iconst (v := 0) hx hb d_World_holder_6 (by decide) ?_
  refine lv_iload_n hx hb d_World_holder_7 rfl (lv_at hl 2 rfl) ?_
  refine mv_i (va_runV (C := "TaleMachine$World") (As := [.int 0, .int (nI pp)]) (rest := []) ⟨hx, hb, hml, hown, hts⟩ (w_holderFrom l D cI cZ cJ h st fl fn li rc kd it pa fx a1 rn_ rb 0 pp fkd a2 _ (by first | assumption | omega | decide) hp4.1 (by first | assumption | omega | decide) hp4.2) (cwV 2 hts (gInV k_323 k_324 k_882 k_3 k_325) rfl rfl rfl (by decide +kernel) ⟨Nat.le_of_ble_eq_true rfl, Nat.le_of_ble_eq_true rfl⟩) (pre_V (va_recv hK hP (q := ("TaleMachine$World", F_World, 9)) rfl (q0 := 1) rfl) (hP.sub [1, 2, 0, 6] rfl) (hK.sub [0, 1, 2] rfl) (hD.sub [1, 2, 0, 6] (by decide) rfl) hT) rfl rfl hl.1 rfl (lv_room (Nat.le_of_ble_eq_true rfl)) d_World_holder_8 ⟨Nat.le_of_ble_eq_true rfl, Nat.le_of_ble_eq_true rfl⟩) hP hD hS hA [1, 2, 0, 6] [3, 4, 5] rfl rfl (by decide) (by decide) (wr := [(pa, .inl (cI, 16, .inl fpa)), (fl, .inl (cI, 256, .inl ffl)), (fn, .inl (cI, 16, .inl ffn))]) (wn := fun _ => [(h, .inr (6, [.ref st, .int (nI fx), .ref fl, .ref fn, .ref li, .int (nI a1), .ref rc, .int (nI rn_), .int rb])), (st, .inr (3, [.ref kd, .ref it, .ref pa])), (kd, .inl (cI, 256, .inl fkd)), (li, .inl (cI, 32, .inl a2))]) (fun _ _ h9 => h9) (fun r5 _ H locs hp6 hP hD hS => ?_)
  have hP : va_P D cL [(pa, .inl (cI, 16, .inl fpa)), (fl, .inl (cI, 256, .inl ffl)), (fn, .inl (cI, 16, .inl ffn)), (h, .inr (6, [.ref st, .int (nI fx), .ref fl, .ref fn, .ref li, .int (nI a1), .ref rc, .int (nI rn_), .int rb])), (st, .inr (3, [.ref kd, .ref it, .ref pa])), (kd, .inl (cI, 256, .inl fkd)), (li, .inl (cI, 32, .inl a2))] H := hP
  have hD : va_D A [(pa, .inl (cI, 16, .inl fpa)), (fl, .inl (cI, 256, .inl ffl)), (fn, .inl (cI, 16, .inl ffn)), (h, .inr (6, [.ref st, .int (nI fx), .ref fl, .ref fn, .ref li, .int (nI a1), .ref rc, .int (nI rn_), .int rb])), (st, .inr (3, [.ref kd, .ref it, .ref pa])), (kd, .inl (cI, 256, .inl fkd)), (li, .inl (cI, 32, .inl a2))] := hD
  exact end_i hx hb hr hlocks hS (u := (a1, a2)) (r := r5) (at_end (hP.sub (ws' := [(h, .inr (6, [.ref st, .int (nI fx), .ref fl, .ref fn, .ref li, .int (nI a1), .ref rc, .int (nI rn_), .int rb])), (st, .inr (3, [.ref kd, .ref it, .ref pa])), (pa, .inl (cI, 16, .inl fpa)), (fl, .inl (cI, 256, .inl ffl)), (fn, .inl (cI, 16, .inl ffn)), (li, .inl (cI, 32, .inl a2)), (kd, .inl (cI, 256, .inl fkd))]) [3, 4, 0, 1, 2, 6, 5] rfl) (hD.sub (ws' := [(h, .inr (6, [.ref st, .int (nI fx), .ref fl, .ref fn, .ref li, .int (nI a1), .ref rc, .int (nI rn_), .int rb])), (st, .inr (3, [.ref kd, .ref it, .ref pa])), (pa, .inl (cI, 16, .inl fpa)), (fl, .inl (cI, 256, .inl ffl)), (fn, .inl (cI, 16, .inl ffn)), (li, .inl (cI, 32, .inl a2)), (kd, .inl (cI, 256, .inl fkd))]) [3, 4, 0, 1, 2, 6, 5] (by decide) rfl)) (⟨hp6, hp4.1, hp4.2⟩) (Nat.le_of_ble_eq_true rfl) (Nat.le_of_ble_eq_true rfl) d_World_holder_11
