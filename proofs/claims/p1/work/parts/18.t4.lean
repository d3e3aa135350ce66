set_option maxHeartbeats 4000000 in
set_option maxRecDepth 100000 in
theorem c_World_isFixed (l : Launch) (D : va_G) (cI cZ cJ : ClassId) (h st fl fn li rc kd it pa : Nat) (oo : Int32) (sz : Nat)  : Met l y_World_isFixed (.code y_World_isFixed prog_8_method_2_code 2 (some .boolean) :: AW) ({ frames := 0, cells := 0, slots := 0, locals := 0 }) (va_Pc [.ref h, .int oo] (pre_ D [(h, .inr (6, [.ref st, .int 0, .ref fl, .ref fn, .ref li, .int 0, .ref rc, .int 0, .int 0]))] [(cI, .int), (cZ, .boolean), (cJ, .long)] sz)) (va_Qi (fun (r : Int32) (u : Unit) => r = 0) (fun _ t => post_ D (va_A [(h, .inr (6, [.ref st, .int 0, .ref fl, .ref fn, .ref li, .int 0, .ref rc, .int 0, .int 0]))] sz) [(h, .inr (6, [.ref st, .int 0, .ref fl, .ref fn, .ref li, .int 0, .ref rc, .int 0, .int 0]))] t) (va_A [(h, .inr (6, [.ref st, .int 0, .ref fl, .ref fn, .ref li, .int 0, .ref rc, .int 0, .int 0]))] sz)) 0 0 (va_A [(h, .inr (6, [.ref st, .int 0, .ref fl, .ref fn, .ref li, .int 0, .ref rc, .int 0, .int 0]))] sz) := by
  refine Met.ofW (cc := prog_8_method_2_code) (maxL := 2) (ret := (some .boolean)) (by decide) rfl ?_
  intro p e s m args below meth c s₁ B hml hv
  obtain ⟨rfl, rfl, hP, hK, hD0, hT⟩ := hv
  have hx := B.exec
  have hb := B.bytes
  have hr := B.returns
  have hts0 := atoms_spec (ws := .code y_World_isFixed prog_8_method_2_code 2 (some .boolean) :: AW) B.pre
  have hts : ∀ w ∈ AW, w.before [.ref h, .int oo].toArray s = true := fun w h => hts0 w (List.mem_cons_of_mem _ h)
  have hown : s.vm.findClass "TaleMachine$World" = some m.cls := findClass_of_methodNamed B.named
  have hlocks := B.notSynchronized
  have hD := hD0.self (sz := s.heap.size)
  generalize hAe : va_A [(h, .inr (6, [.ref st, .int 0, .ref fl, .ref fn, .ref li, .int 0, .ref rc, .int 0, .int 0]))] s.heap.size = A at hD ⊢
  have hA : ∀ q : Nat, s.heap.size ≤ q → A q := fun q h => by rw [← hAe]; exact Or.inr h
  have hS : va_S A s.heap s.heap [] := va_S.rf
  have hl := lv_entry ([.ref h, .int oo]) (n := 2) (Nat.le_of_ble_eq_true rfl)
  rw [lg_entry_eq]
  generalize (lg_sl ([.ref h, .int oo]) ++ List.replicate (2 - (lg_sl ([.ref h, .int oo])).length) Slot.unset).toArray = ls at hl ⊢
  have hl : lv_has ls 2 [(0, .ref h), (1, .int oo)] := hl
  refine lv_iload_n hx hb d_World_isFixed_0 rfl (lv_at hl 1 rfl) ?_
  refine lv_if_lt hx hb d_World_isFixed_1 (tgt := 16) (by decide) (fun hc1 => ?_) (fun hc1 => ?_)
  · refine lv_iconst (v := 0) hx hb d_World_isFixed_16 (by decide) ?_
    exact end_z hx hb hr hlocks hS (u := ()) (r := 0) (at_end (hP.sub (ws' := [(h, .inr (6, [.ref st, .int 0, .ref fl, .ref fn, .ref li, .int 0, .ref rc, .int 0, .int 0]))]) [0] rfl) (hD.sub (ws' := [(h, .inr (6, [.ref st, .int 0, .ref fl, .ref fn, .ref li, .int 0, .ref rc, .int 0, .int 0]))]) [0] (by decide) rfl)) (rfl) (by decide) (Nat.le_of_ble_eq_true rfl) (Nat.le_of_ble_eq_true rfl) d_World_isFixed_17
  · refine lv_iload_n hx hb d_World_isFixed_4 rfl (lv_at hl 1 rfl) ?_
    refine lv_aload_n hx hb d_World_isFixed_5 rfl (lv_at hl 0 rfl) ?_
    refine va_get (D := D) (ci := 6) (v := .int 0) (C := "TaleMachine$World") (T := F_World) (N := 9) hx hb hts in_World hown hK hP 0 rfl rfl 1 (by decide) (hts _ k_129) (fun _ h9 => h9) rfl d_World_isFixed_6 ?_
    refine lv_icmp_ge hx hb d_World_isFixed_9 (tgt := 16) (by decide) (fun _ => ?_) (fun hz => absurd (Int32.not_lt.mp hc1) hz)
    refine lv_iconst (v := 0) hx hb d_World_isFixed_16 (by decide) ?_
    exact end_z hx hb hr hlocks hS (u := ()) (r := 0) (at_end (hP.sub (ws' := [(h, .inr (6, [.ref st, .int 0, .ref fl, .ref fn, .ref li, .int 0, .ref rc, .int 0, .int 0]))]) [0] rfl) (hD.sub (ws' := [(h, .inr (6, [.ref st, .int 0, .ref fl, .ref fn, .ref li, .int 0, .ref rc, .int 0, .int 0]))]) [0] (by decide) rfl)) (rfl) (by decide) (Nat.le_of_ble_eq_true rfl) (Nat.le_of_ble_eq_true rfl) d_World_isFixed_17

set_option maxHeartbeats 4000000 in
set_option maxRecDepth 100000 in
theorem c_World_isThere (l : Launch) (D : va_G) (cI cZ cJ : ClassId) (h st fl fn li rc kd it pa : Nat) (oo : Int32) (sz : Nat)  : Met l y_World_isThere (.code y_World_isThere prog_8_method_3_code 2 (some .boolean) :: AW) ({ frames := 1, cells := 0, slots := 0, locals := 21 }) (va_Pc [.ref h, .int oo] (pre_ D [(h, .inr (6, [.ref st, .int 0, .ref fl, .ref fn, .ref li, .int 0, .ref rc, .int 0, .int 0])), (st, .inr (3, [.ref kd, .ref it, .ref pa])), (pa, .inl (cI, 16, .inl (fun _ => -1)))] [(cI, .int), (cZ, .boolean), (cJ, .long)] sz)) (va_Qi (fun (r : Int32) (u : Unit) => r = 0) (fun _ t => post_ D (va_A [(h, .inr (6, [.ref st, .int 0, .ref fl, .ref fn, .ref li, .int 0, .ref rc, .int 0, .int 0])), (st, .inr (3, [.ref kd, .ref it, .ref pa])), (pa, .inl (cI, 16, .inl (fun _ => -1)))] sz) [(h, .inr (6, [.ref st, .int 0, .ref fl, .ref fn, .ref li, .int 0, .ref rc, .int 0, .int 0])), (st, .inr (3, [.ref kd, .ref it, .ref pa])), (pa, .inl (cI, 16, .inl (fun _ => -1)))] t) (va_A [(h, .inr (6, [.ref st, .int 0, .ref fl, .ref fn, .ref li, .int 0, .ref rc, .int 0, .int 0])), (st, .inr (3, [.ref kd, .ref it, .ref pa])), (pa, .inl (cI, 16, .inl (fun _ => -1)))] sz)) 0 0 (va_A [(h, .inr (6, [.ref st, .int 0, .ref fl, .ref fn, .ref li, .int 0, .ref rc, .int 0, .int 0])), (st, .inr (3, [.ref kd, .ref it, .ref pa])), (pa, .inl (cI, 16, .inl (fun _ => -1)))] sz) := by
  refine Met.ofW (cc := prog_8_method_3_code) (maxL := 2) (ret := (some .boolean)) (by decide) rfl ?_
  intro p e s m args below meth c s₁ B hml hv
  obtain ⟨rfl, rfl, hP, hK, hD0, hT⟩ := hv
  have hx := B.exec
  have hb := B.bytes
  have hr := B.returns
  have hts0 := atoms_spec (ws := .code y_World_isThere prog_8_method_3_code 2 (some .boolean) :: AW) B.pre
  have hts : ∀ w ∈ AW, w.before [.ref h, .int oo].toArray s = true := fun w h => hts0 w (List.mem_cons_of_mem _ h)
  have hown : s.vm.findClass "TaleMachine$World" = some m.cls := findClass_of_methodNamed B.named
  have hlocks := B.notSynchronized
  have hD := hD0.self (sz := s.heap.size)
  generalize hAe : va_A [(h, .inr (6, [.ref st, .int 0, .ref fl, .ref fn, .ref li, .int 0, .ref rc, .int 0, .int 0])), (st, .inr (3, [.ref kd, .ref it, .ref pa])), (pa, .inl (cI, 16, .inl (fun _ => -1)))] s.heap.size = A at hD ⊢
  have hA : ∀ q : Nat, s.heap.size ≤ q → A q := fun q h => by rw [← hAe]; exact Or.inr h
  have hS : va_S A s.heap s.heap [] := va_S.rf
  have hl := lv_entry ([.ref h, .int oo]) (n := 2) (Nat.le_of_ble_eq_true rfl)
  rw [lg_entry_eq]
  generalize (lg_sl ([.ref h, .int oo]) ++ List.replicate (2 - (lg_sl ([.ref h, .int oo])).length) Slot.unset).toArray = ls at hl ⊢
  have hl : lv_has ls 2 [(0, .ref h), (1, .int oo)] := hl
  refine lv_aload_n hx hb d_World_isThere_0 rfl (lv_at hl 0 rfl) ?_
  refine lv_iload_n hx hb d_World_isThere_1 rfl (lv_at hl 1 rfl) ?_
  refine mv_i (va_runV (C := "TaleMachine$World") (As := [.int oo]) (rest := []) ⟨hx, hb, hml, hown, hts⟩ (c_World_isFixed l D cI cZ cJ h st fl fn li rc 0 0 0 oo _ ) (cwV 1 hts (gInV k_131 k_132 k_133 k_106 k_130) rfl rfl rfl (by decide +kernel) ⟨Nat.le_of_ble_eq_true rfl, Nat.le_of_ble_eq_true rfl⟩) (pre_V (va_recv hK hP (q := ("TaleMachine$World", F_World, 9)) rfl (q0 := 0) rfl) (hP.sub [0] rfl) (hK.sub [0, 1, 2] rfl) (hD.sub [0] (by decide) rfl) hT) rfl rfl hl.1 rfl (lv_room (Nat.le_of_ble_eq_true rfl)) d_World_isThere_2 ⟨Nat.le_of_ble_eq_true rfl, Nat.le_of_ble_eq_true rfl⟩) hP hD hS hA [0] [1, 2] rfl rfl (by decide) (by decide) (wr := [(st, .inr (3, [.ref kd, .ref it, .ref pa])), (pa, .inl (cI, 16, .inl (fun _ => -1)))]) (wn := fun _ => [(h, .inr (6, [.ref st, .int 0, .ref fl, .ref fn, .ref li, .int 0, .ref rc, .int 0, .int 0]))]) (fun _ _ h9 => h9) (fun r1 _ H locs hp2 hP hD hS => ?_)
  have hP : va_P D cL [(st, .inr (3, [.ref kd, .ref it, .ref pa])), (pa, .inl (cI, 16, .inl (fun _ => -1))), (h, .inr (6, [.ref st, .int 0, .ref fl, .ref fn, .ref li, .int 0, .ref rc, .int 0, .int 0]))] H := hP
  have hD : va_D A [(st, .inr (3, [.ref kd, .ref it, .ref pa])), (pa, .inl (cI, 16, .inl (fun _ => -1))), (h, .inr (6, [.ref st, .int 0, .ref fl, .ref fn, .ref li, .int 0, .ref rc, .int 0, .int 0]))] := hD
  obtain rfl : r1 = 0 := hp2
  refine lv_if_ne hx hb d_World_isThere_5 (tgt := 36) (by decide) (fun hz => absurd (by decide) hz) (fun _ => ?_)
  refine lv_iload_n hx hb d_World_isThere_8 rfl (lv_at hl 1 rfl) ?_
  refine lv_bipush (v := 16) hx hb d_World_isThere_9 (by decide) ?_
  refine lv_icmp_lt hx hb d_World_isThere_11 (tgt := 40) (by decide) (fun hc3 => ?_) (fun hc3 => ?_)
  · refine lv_iconst (v := 0) hx hb d_World_isThere_40 (by decide) ?_
    exact end_z hx hb hr hlocks hS (u := ()) (r := 0) (at_end (hP.sub (ws' := [(h, .inr (6, [.ref st, .int 0, .ref fl, .ref fn, .ref li, .int 0, .ref rc, .int 0, .int 0])), (st, .inr (3, [.ref kd, .ref it, .ref pa])), (pa, .inl (cI, 16, .inl (fun _ => -1)))]) [2, 0, 1] rfl) (hD.sub (ws' := [(h, .inr (6, [.ref st, .int 0, .ref fl, .ref fn, .ref li, .int 0, .ref rc, .int 0, .int 0])), (st, .inr (3, [.ref kd, .ref it, .ref pa])), (pa, .inl (cI, 16, .inl (fun _ => -1)))]) [2, 0, 1] (by decide) rfl)) (rfl) (by decide) (Nat.le_of_ble_eq_true rfl) (Nat.le_of_ble_eq_true rfl) d_World_isThere_41
  · refine lv_iload_n hx hb d_World_isThere_14 rfl (lv_at hl 1 rfl) ?_
    refine lv_bipush (v := 32) hx hb d_World_isThere_15 (by decide) ?_
    refine lv_icmp_ge hx hb d_World_isThere_17 (tgt := 40) (by decide) (fun hc4 => ?_) (fun hc4 => ?_)
    · refine lv_iconst (v := 0) hx hb d_World_isThere_40 (by decide) ?_
      exact end_z hx hb hr hlocks hS (u := ()) (r := 0) (at_end (hP.sub (ws' := [(h, .inr (6, [.ref st, .int 0, .ref fl, .ref fn, .ref li, .int 0, .ref rc, .int 0, .int 0])), (st, .inr (3, [.ref kd, .ref it, .ref pa])), (pa, .inl (cI, 16, .inl (fun _ => -1)))]) [2, 0, 1] rfl) (hD.sub (ws' := [(h, .inr (6, [.ref st, .int 0, .ref fl, .ref fn, .ref li, .int 0, .ref rc, .int 0, .int 0])), (st, .inr (3, [.ref kd, .ref it, .ref pa])), (pa, .inl (cI, 16, .inl (fun _ => -1)))]) [2, 0, 1] (by decide) rfl)) (rfl) (by decide) (Nat.le_of_ble_eq_true rfl) (Nat.le_of_ble_eq_true rfl) d_World_isThere_41
    · refine lv_aload_n hx hb d_World_isThere_20 rfl (lv_at hl 0 rfl) ?_
      refine va_get (D := D) (ci := 6) (v := .ref st) (C := "TaleMachine$World") (T := F_World) (N := 9) hx hb hts in_World hown hK hP 2 rfl rfl 0 (by decide) (hts _ k_65) (fun _ h9 => h9) rfl d_World_isThere_21 ?_
      refine va_get (D := D) (ci := 3) (v := .ref pa) (C := "TaleMachine$State") (T := F_State) (N := 3) hx hb hts in_State hown hK hP 0 rfl rfl 2 (by decide) (hts _ k_134) (fun _ h9 => h9) rfl d_World_isThere_24 ?_
      refine lv_iload_n hx hb d_World_isThere_27 rfl (lv_at hl 1 rfl) ?_
      refine lv_bipush (v := 16) hx hb d_World_isThere_28 (by decide) ?_
      refine lv_isub hx hb d_World_isThere_30 ?_
      refine lv_topi (fun z5 hz5 => ?_)
      obtain rfl : z5 = (oo - 16) := hz5.trans (rfl)
      refine va_iald hx hb hK hP 1 0 rfl rfl (i := (oo - 16)) (ws_ix hc3 hc4) d_World_isThere_31 ?_
      refine lv_topi (fun z6 hz6 => ?_)
      obtain rfl : z6 = (-1) := hz6
      refine lv_iconst (v := (-1)) hx hb d_World_isThere_32 (by decide) ?_
      refine lv_icmp_eq hx hb d_World_isThere_33 (tgt := 40) (by decide) (fun _ => ?_) (fun hz => absurd (by decide) hz)
      refine lv_iconst (v := 0) hx hb d_World_isThere_40 (by decide) ?_
      exact end_z hx hb hr hlocks hS (u := ()) (r := 0) (at_end (hP.sub (ws' := [(h, .inr (6, [.ref st, .int 0, .ref fl, .ref fn, .ref li, .int 0, .ref rc, .int 0, .int 0])), (st, .inr (3, [.ref kd, .ref it, .ref pa])), (pa, .inl (cI, 16, .inl (fun _ => -1)))]) [2, 0, 1] rfl) (hD.sub (ws' := [(h, .inr (6, [.ref st, .int 0, .ref fl, .ref fn, .ref li, .int 0, .ref rc, .int 0, .int 0])), (st, .inr (3, [.ref kd, .ref it, .ref pa])), (pa, .inl (cI, 16, .inl (fun _ => -1)))]) [2, 0, 1] (by decide) rfl)) (rfl) (by decide) (Nat.le_of_ble_eq_true rfl) (Nat.le_of_ble_eq_true rfl) d_World_isThere_41

set_option maxHeartbeats 4000000 in
set_option maxRecDepth 100000 in
theorem c_World_count (l : Launch) (D : va_G) (cI cZ cJ : ClassId) (h st fl fn li rc kd it pa : Nat) (sz : Nat)  : Met l y_World_count (.code y_World_count prog_8_method_4_code 3 (some .int) :: AW) ({ frames := 0, cells := 0, slots := 0, locals := 0 }) (va_Pc [.ref h] (pre_ D [(h, .inr (6, [.ref st, .int 0, .ref fl, .ref fn, .ref li, .int 0, .ref rc, .int 0, .int 0])), (st, .inr (3, [.ref kd, .ref it, .ref pa])), (pa, .inl (cI, 16, .inl (fun _ => -1)))] [(cI, .int), (cZ, .boolean), (cJ, .long)] sz)) (va_Qi (fun (r : Int32) (u : Unit) => r = 0) (fun _ t => post_ D (va_A [(h, .inr (6, [.ref st, .int 0, .ref fl, .ref fn, .ref li, .int 0, .ref rc, .int 0, .int 0])), (st, .inr (3, [.ref kd, .ref it, .ref pa])), (pa, .inl (cI, 16, .inl (fun _ => -1)))] sz) [] t) (va_A [(h, .inr (6, [.ref st, .int 0, .ref fl, .ref fn, .ref li, .int 0, .ref rc, .int 0, .int 0])), (st, .inr (3, [.ref kd, .ref it, .ref pa])), (pa, .inl (cI, 16, .inl (fun _ => -1)))] sz)) 0 0 (va_A [(h, .inr (6, [.ref st, .int 0, .ref fl, .ref fn, .ref li, .int 0, .ref rc, .int 0, .int 0])), (st, .inr (3, [.ref kd, .ref it, .ref pa])), (pa, .inl (cI, 16, .inl (fun _ => -1)))] sz) := by
  refine Met.ofW (cc := prog_8_method_4_code) (maxL := 3) (ret := (some .int)) (by decide) rfl ?_
  intro p e s m args below meth c s₁ B hml hv
  obtain ⟨rfl, rfl, hP, hK, hD0, hT⟩ := hv
  have hx := B.exec
  have hb := B.bytes
  have hr := B.returns
  have hts0 := atoms_spec (ws := .code y_World_count prog_8_method_4_code 3 (some .int) :: AW) B.pre
  have hts : ∀ w ∈ AW, w.before [.ref h].toArray s = true := fun w h => hts0 w (List.mem_cons_of_mem _ h)
  have hown : s.vm.findClass "TaleMachine$World" = some m.cls := findClass_of_methodNamed B.named
  have hlocks := B.notSynchronized
  have hD := hD0.self (sz := s.heap.size)
  generalize hAe : va_A [(h, .inr (6, [.ref st, .int 0, .ref fl, .ref fn, .ref li, .int 0, .ref rc, .int 0, .int 0])), (st, .inr (3, [.ref kd, .ref it, .ref pa])), (pa, .inl (cI, 16, .inl (fun _ => -1)))] s.heap.size = A at hD ⊢
  have hA : ∀ q : Nat, s.heap.size ≤ q → A q := fun q h => by rw [← hAe]; exact Or.inr h
  have hS : va_S A s.heap s.heap [] := va_S.rf
  have hl := lv_entry ([.ref h]) (n := 3) (Nat.le_of_ble_eq_true rfl)
  rw [lg_entry_eq]
  generalize (lg_sl ([.ref h]) ++ List.replicate (3 - (lg_sl ([.ref h])).length) Slot.unset).toArray = ls at hl ⊢
  have hl : lv_has ls 3 [(0, .ref h)] := hl
  refine lv_aload_n hx hb d_World_count_0 rfl (lv_at hl 0 rfl) ?_
  refine va_get (D := D) (ci := 6) (v := .int 0) (C := "TaleMachine$World") (T := F_World) (N := 9) hx hb hts in_World hown hK hP 0 rfl rfl 1 (by decide) (hts _ k_129) (fun _ h9 => h9) rfl d_World_count_1 ?_
  refine lv_istore_n (lv' := [(1, .int 0), (0, .ref h)]) hx hb d_World_count_4 rfl hl (by decide) rfl (fun ls hl => ?_)
  refine lv_iconst (v := 0) hx hb d_World_count_5 (by decide) ?_
  refine lv_istore_n (lv' := [(2, .int 0), (1, .int 0), (0, .ref h)]) hx hb d_World_count_6 rfl hl (by decide) rfl (fun ls hl => ?_)
  refine lp_W (I := fun k1 H locs ls => va_P D cL [(h, .inr (6, [.ref st, .int 0, .ref fl, .ref fn, .ref li, .int 0, .ref rc, .int 0, .int 0])), (st, .inr (3, [.ref kd, .ref it, .ref pa])), (pa, .inl (cI, 16, .inl (fun _ => -1)))] H ∧ va_D A [(h, .inr (6, [.ref st, .int 0, .ref fl, .ref fn, .ref li, .int 0, .ref rc, .int 0, .int 0])), (st, .inr (3, [.ref kd, .ref it, .ref pa])), (pa, .inl (cI, 16, .inl (fun _ => -1)))] ∧ va_S A s.heap H locs ∧ lv_has ls 3 [(2, .int (nI k1)), (1, .int 0), (0, .ref h)]) (a := 0) (b := 16) (by decide) ?_ _ _ _ ⟨hP, hD, hS, hl⟩
  intro k1 H locs ls hkak1 hkbk1 hI ih2
  obtain ⟨hP, hD, hS, hl⟩ := hI
  rcases Nat.lt_or_ge k1 16 with hkk1 | hkk1
  · refine lv_iload_n hx hb d_World_count_7 rfl (lv_at hl 0 rfl) ?_
    refine lv_bipush (v := 16) hx hb d_World_count_8 (by decide) ?_
    refine lv_icmp_ge hx hb d_World_count_10 (tgt := 35) (by decide) (fun hz => absurd hz (nI_ge hkk1 (by decide))) (fun _ => ?_)
    refine lv_aload_n hx hb d_World_count_13 rfl (lv_at hl 2 rfl) ?_
    refine va_get (D := D) (ci := 6) (v := .ref st) (C := "TaleMachine$World") (T := F_World) (N := 9) hx hb hts in_World hown hK hP 0 rfl rfl 0 (by decide) (hts _ k_65) (fun _ h9 => h9) rfl d_World_count_14 ?_
    refine va_get (D := D) (ci := 3) (v := .ref pa) (C := "TaleMachine$State") (T := F_State) (N := 3) hx hb hts in_State hown hK hP 1 rfl rfl 2 (by decide) (hts _ k_134) (fun _ h9 => h9) rfl d_World_count_17 ?_
    refine lv_iload_n hx hb d_World_count_20 rfl (lv_at hl 0 rfl) ?_
    refine va_iald hx hb hK hP 2 0 rfl rfl (i := (nI k1)) (vp_in_nI hkk1 (by decide)) d_World_count_21 ?_
    refine lv_topi (fun z3 hz3 => ?_)
    obtain rfl : z3 = (-1) := hz3
    refine lv_iconst (v := (-1)) hx hb d_World_count_22 (by decide) ?_
    refine lv_icmp_eq hx hb d_World_count_23 (tgt := 29) (by decide) (fun _ => ?_) (fun hz => absurd (by decide) hz)
    refine lv_iinc (v := (nI (k1 + 1))) (lv' := [(2, .int (nI (k1 + 1))), (1, .int 0), (0, .ref h)]) hx hb d_World_count_29 hl (k := 0) rfl (nI_1 k1) (by decide) rfl (fun ls hl => ?_)
    refine lv_goto hx hb d_World_count_32 (tgt := 7) (by decide) ?_
    exact ih2 hkk1 _ _ _ ⟨hP, hD, hS, lv_sub hl [0, 1, 2] rfl⟩
  · obtain rfl : k1 = 16 := by omega
    have hl : lv_has ls 3 [(2, .int 16), (1, .int 0), (0, .ref h)] := hl
    refine lv_iload_n hx hb d_World_count_7 rfl (lv_at hl 0 rfl) ?_
    refine lv_bipush (v := 16) hx hb d_World_count_8 (by decide) ?_
    refine lv_icmp_ge hx hb d_World_count_10 (tgt := 35) (by decide) (fun _ => ?_) (fun hz => absurd (by decide) hz)
    refine lv_iload_n hx hb d_World_count_35 rfl (lv_at hl 1 rfl) ?_
    exact end_i hx hb hr hlocks hS (u := ()) (r := 0) (at_end (hP.sub (ws' := []) [] rfl) (hD.sub (ws' := []) [] (by decide) rfl)) (rfl) (Nat.le_of_ble_eq_true rfl) (Nat.le_of_ble_eq_true rfl) d_World_count_36

set_option maxHeartbeats 4000000 in
set_option maxRecDepth 100000 in
theorem c_World_forget (l : Launch) (D : va_G) (cI cZ cJ : ClassId) (h st fl fn li rc kd it pa : Nat) (sz : Nat)  : Met l y_World_forgetReached (.code y_World_forgetReached prog_8_method_18_code 1 none :: AW) ({ frames := 0, cells := 0, slots := 0, locals := 0 }) (va_Pc [.ref h] (pre_ D [(h, .inr (6, [.ref st, .int 0, .ref fl, .ref fn, .ref li, .int 0, .ref rc, .int 0, .int 0]))] [(cI, .int), (cZ, .boolean), (cJ, .long)] sz)) (va_Qv (fun (u : Unit) => True) (fun _ t => post_ D (va_A [(h, .inr (6, [.ref st, .int 0, .ref fl, .ref fn, .ref li, .int 0, .ref rc, .int 0, .int 0]))] sz) [(h, .inr (6, [.ref st, .int 0, .ref fl, .ref fn, .ref li, .int 0, .ref rc, .int 0, .int 0]))] t) (va_A [(h, .inr (6, [.ref st, .int 0, .ref fl, .ref fn, .ref li, .int 0, .ref rc, .int 0, .int 0]))] sz)) 0 0 (va_A [(h, .inr (6, [.ref st, .int 0, .ref fl, .ref fn, .ref li, .int 0, .ref rc, .int 0, .int 0]))] sz) := by
  refine Met.ofW (cc := prog_8_method_18_code) (maxL := 1) (ret := none) (by decide) rfl ?_
  intro p e s m args below meth c s₁ B hml hv
  obtain ⟨rfl, rfl, hP, hK, hD0, hT⟩ := hv
  have hx := B.exec
  have hb := B.bytes
  have hr := B.returns
  have hts0 := atoms_spec (ws := .code y_World_forgetReached prog_8_method_18_code 1 none :: AW) B.pre
  have hts : ∀ w ∈ AW, w.before [.ref h].toArray s = true := fun w h => hts0 w (List.mem_cons_of_mem _ h)
  have hown : s.vm.findClass "TaleMachine$World" = some m.cls := findClass_of_methodNamed B.named
  have hlocks := B.notSynchronized
  have hD := hD0.self (sz := s.heap.size)
  generalize hAe : va_A [(h, .inr (6, [.ref st, .int 0, .ref fl, .ref fn, .ref li, .int 0, .ref rc, .int 0, .int 0]))] s.heap.size = A at hD ⊢
  have hA : ∀ q : Nat, s.heap.size ≤ q → A q := fun q h => by rw [← hAe]; exact Or.inr h
  have hS : va_S A s.heap s.heap [] := va_S.rf
  have hl := lv_entry ([.ref h]) (n := 1) (Nat.le_of_ble_eq_true rfl)
  rw [lg_entry_eq]
  generalize (lg_sl ([.ref h]) ++ List.replicate (1 - (lg_sl ([.ref h])).length) Slot.unset).toArray = ls at hl ⊢
  have hl : lv_has ls 1 [(0, .ref h)] := hl
  refine lv_aload_n hx hb d_World_forgetReached_0 rfl (lv_at hl 0 rfl) ?_
  refine lv_iconst (v := 0) hx hb d_World_forgetReached_1 (by decide) ?_
  refine va_put (D := D) (ci := 6) (v := .int 0) (ty := .int) (C := "TaleMachine$World") (T := F_World) (N := 9) hx hb hts in_World t_World t_World_ok n_World hown hK hP hD hS 0 rfl rfl 7 (by decide) (hts _ k_135) (fun _ h9 => h9) rfl (by decide +kernel) rfl rfl (Nat.le_of_ble_eq_true rfl) d_World_forgetReached_2 (fun H locs hP hD hS => ?_)
  have hP : va_P D cL [(h, .inr (6, [.ref st, .int 0, .ref fl, .ref fn, .ref li, .int 0, .ref rc, .int 0, .int 0]))] H := hP
  have hD : va_D A [(h, .inr (6, [.ref st, .int 0, .ref fl, .ref fn, .ref li, .int 0, .ref rc, .int 0, .int 0]))] := hD
  refine lv_aload_n hx hb d_World_forgetReached_5 rfl (lv_at hl 0 rfl) ?_
  refine lv_iconst (v := 0) hx hb d_World_forgetReached_6 (by decide) ?_
  refine va_put (D := D) (ci := 6) (v := .int 0) (ty := .int) (C := "TaleMachine$World") (T := F_World) (N := 9) hx hb hts in_World t_World t_World_ok n_World hown hK hP hD hS 0 rfl rfl 8 (by decide) (hts _ k_136) (fun _ h9 => h9) rfl (by decide +kernel) rfl rfl (Nat.le_of_ble_eq_true rfl) d_World_forgetReached_7 (fun H locs hP hD hS => ?_)
  have hP : va_P D cL [(h, .inr (6, [.ref st, .int 0, .ref fl, .ref fn, .ref li, .int 0, .ref rc, .int 0, .int 0]))] H := hP
  have hD : va_D A [(h, .inr (6, [.ref st, .int 0, .ref fl, .ref fn, .ref li, .int 0, .ref rc, .int 0, .int 0]))] := hD
  exact end_v hx hb hr hlocks hS (u := ()) (at_end (hP.sub (ws' := [(h, .inr (6, [.ref st, .int 0, .ref fl, .ref fn, .ref li, .int 0, .ref rc, .int 0, .int 0]))]) [0] rfl) (hD.sub (ws' := [(h, .inr (6, [.ref st, .int 0, .ref fl, .ref fn, .ref li, .int 0, .ref rc, .int 0, .int 0]))]) [0] (by decide) rfl)) (trivial) (Nat.le_of_ble_eq_true rfl) (Nat.le_of_ble_eq_true rfl) d_World_forgetReached_10

set_option maxHeartbeats 4000000 in
set_option maxRecDepth 100000 in
theorem c_World_sweep (l : Launch) (D : va_G) (cI cZ cJ : ClassId) (h st fl fn li rc kd it pa : Nat) (sz : Nat)  : Met l y_World_sweep (.code y_World_sweep prog_8_method_21_code 3 (some .int) :: AW) ({ frames := 2, cells := 0, slots := 0, locals := 42 }) (va_Pc [.ref h] (pre_ D [(h, .inr (6, [.ref st, .int 0, .ref fl, .ref fn, .ref li, .int 0, .ref rc, .int 0, .int 0])), (st, .inr (3, [.ref kd, .ref it, .ref pa])), (pa, .inl (cI, 16, .inl (fun _ => -1)))] [(cI, .int), (cZ, .boolean), (cJ, .long)] sz)) (va_Qi (fun (r : Int32) (u : Unit) => r = 0) (fun _ t => post_ D (va_A [(h, .inr (6, [.ref st, .int 0, .ref fl, .ref fn, .ref li, .int 0, .ref rc, .int 0, .int 0])), (st, .inr (3, [.ref kd, .ref it, .ref pa])), (pa, .inl (cI, 16, .inl (fun _ => -1)))] sz) [] t) (va_A [(h, .inr (6, [.ref st, .int 0, .ref fl, .ref fn, .ref li, .int 0, .ref rc, .int 0, .int 0])), (st, .inr (3, [.ref kd, .ref it, .ref pa])), (pa, .inl (cI, 16, .inl (fun _ => -1)))] sz)) 0 0 (va_A [(h, .inr (6, [.ref st, .int 0, .ref fl, .ref fn, .ref li, .int 0, .ref rc, .int 0, .int 0])), (st, .inr (3, [.ref kd, .ref it, .ref pa])), (pa, .inl (cI, 16, .inl (fun _ => -1)))] sz) := by
  refine Met.ofW (cc := prog_8_method_21_code) (maxL := 3) (ret := (some .int)) (by decide) rfl ?_
  intro p e s m args below meth c s₁ B hml hv
  obtain ⟨rfl, rfl, hP, hK, hD0, hT⟩ := hv
  have hx := B.exec
  have hb := B.bytes
  have hr := B.returns
  have hts0 := atoms_spec (ws := .code y_World_sweep prog_8_method_21_code 3 (some .int) :: AW) B.pre
  have hts : ∀ w ∈ AW, w.before [.ref h].toArray s = true := fun w h => hts0 w (List.mem_cons_of_mem _ h)
  have hown : s.vm.findClass "TaleMachine$World" = some m.cls := findClass_of_methodNamed B.named
  have hlocks := B.notSynchronized
  have hD := hD0.self (sz := s.heap.size)
  generalize hAe : va_A [(h, .inr (6, [.ref st, .int 0, .ref fl, .ref fn, .ref li, .int 0, .ref rc, .int 0, .int 0])), (st, .inr (3, [.ref kd, .ref it, .ref pa])), (pa, .inl (cI, 16, .inl (fun _ => -1)))] s.heap.size = A at hD ⊢
  have hA : ∀ q : Nat, s.heap.size ≤ q → A q := fun q h => by rw [← hAe]; exact Or.inr h
  have hS : va_S A s.heap s.heap [] := va_S.rf
  have hl := lv_entry ([.ref h]) (n := 3) (Nat.le_of_ble_eq_true rfl)
  rw [lg_entry_eq]
  generalize (lg_sl ([.ref h]) ++ List.replicate (3 - (lg_sl ([.ref h])).length) Slot.unset).toArray = ls at hl ⊢
  have hl : lv_has ls 3 [(0, .ref h)] := hl
  refine lv_iconst (v := 0) hx hb d_World_sweep_0 (by decide) ?_
  refine lv_istore_n (lv' := [(1, .int 0), (0, .ref h)]) hx hb d_World_sweep_1 rfl hl (by decide) rfl (fun ls hl => ?_)
  refine lv_iload_n hx hb d_World_sweep_2 rfl (lv_at hl 0 rfl) ?_
  refine lv_aload_n hx hb d_World_sweep_3 rfl (lv_at hl 1 rfl) ?_
  refine va_get (D := D) (ci := 6) (v := .int 0) (C := "TaleMachine$World") (T := F_World) (N := 9) hx hb hts in_World hown hK hP 0 rfl rfl 1 (by decide) (hts _ k_129) (fun _ h9 => h9) rfl d_World_sweep_4 ?_
  refine lv_icmp_ge hx hb d_World_sweep_7 (tgt := 21) (by decide) (fun _ => ?_) (fun hz => absurd (by decide) hz)
  refine lv_iconst (v := 0) hx hb d_World_sweep_21 (by decide) ?_
  refine lv_istore_n (lv' := [(1, .int 0), (0, .ref h)]) hx hb d_World_sweep_22 rfl hl (by decide) rfl (fun ls hl => ?_)
  refine lv_iload_n hx hb d_World_sweep_23 rfl (lv_at hl 0 rfl) ?_
  refine lv_aload_n hx hb d_World_sweep_24 rfl (lv_at hl 1 rfl) ?_
  refine va_get (D := D) (ci := 6) (v := .int 0) (C := "TaleMachine$World") (T := F_World) (N := 9) hx hb hts in_World hown hK hP 0 rfl rfl 7 (by decide) (hts _ k_135) (fun _ h9 => h9) rfl d_World_sweep_25 ?_
  refine lv_icmp_ge hx hb d_World_sweep_28 (tgt := 53) (by decide) (fun _ => ?_) (fun hz => absurd (by decide) hz)
  refine lv_iconst (v := 0) hx hb d_World_sweep_53 (by decide) ?_
  refine lv_istore_n (lv' := [(1, .int 0), (0, .ref h)]) hx hb d_World_sweep_54 rfl hl (by decide) rfl (fun ls hl => ?_)
  refine lv_bipush (v := 16) hx hb d_World_sweep_55 (by decide) ?_
  refine lv_istore_n (lv' := [(2, .int 16), (1, .int 0), (0, .ref h)]) hx hb d_World_sweep_57 rfl hl (by decide) rfl (fun ls hl => ?_)
  refine lp_W (I := fun k1 H locs ls => va_P D cL [(h, .inr (6, [.ref st, .int 0, .ref fl, .ref fn, .ref li, .int 0, .ref rc, .int 0, .int 0])), (st, .inr (3, [.ref kd, .ref it, .ref pa])), (pa, .inl (cI, 16, .inl (fun _ => -1)))] H ∧ va_D A [(h, .inr (6, [.ref st, .int 0, .ref fl, .ref fn, .ref li, .int 0, .ref rc, .int 0, .int 0])), (st, .inr (3, [.ref kd, .ref it, .ref pa])), (pa, .inl (cI, 16, .inl (fun _ => -1)))] ∧ va_S A s.heap H locs ∧ lv_has ls 3 [(2, .int (nI k1)), (1, .int 0), (0, .ref h)]) (a := 16) (b := 32) (by decide) ?_ _ _ _ ⟨hP, hD, hS, hl⟩
  intro k1 H locs ls hkak1 hkbk1 hI ih2
  obtain ⟨hP, hD, hS, hl⟩ := hI
  rcases Nat.lt_or_ge k1 32 with hkk1 | hkk1
  · refine lv_iload_n hx hb d_World_sweep_58 rfl (lv_at hl 0 rfl) ?_
    refine lv_bipush (v := 32) hx hb d_World_sweep_59 (by decide) ?_
    refine lv_icmp_ge hx hb d_World_sweep_61 (tgt := 105) (by decide) (fun hz => absurd hz (nI_ge hkk1 (by decide))) (fun _ => ?_)
    refine lv_aload_n hx hb d_World_sweep_64 rfl (lv_at hl 2 rfl) ?_
    refine lv_iload_n hx hb d_World_sweep_65 rfl (lv_at hl 0 rfl) ?_
    refine mv_i (va_runV (C := "TaleMachine$World") (As := [.int (nI k1)]) (rest := []) ⟨hx, hb, hml, hown, hts⟩ (c_World_isThere l D cI cZ cJ h st fl fn li rc kd it pa (nI k1) _ ) (cwV 1 hts (gInV k_138 k_139 k_140 k_106 k_137) rfl rfl rfl (by decide +kernel) ⟨Nat.le_of_ble_eq_true rfl, Nat.le_of_ble_eq_true rfl⟩) (pre_V (va_recv hK hP (q := ("TaleMachine$World", F_World, 9)) rfl (q0 := 0) rfl) (hP.sub [0, 1, 2] rfl) (hK.sub [0, 1, 2] rfl) (hD.sub [0, 1, 2] (by decide) rfl) hT) rfl rfl hl.1 rfl (lv_room (Nat.le_of_ble_eq_true rfl)) d_World_sweep_66 ⟨Nat.le_of_ble_eq_true rfl, Nat.le_of_ble_eq_true rfl⟩) hP hD hS hA [0, 1, 2] [] rfl rfl (by decide) (by decide) (wr := []) (wn := fun _ => [(h, .inr (6, [.ref st, .int 0, .ref fl, .ref fn, .ref li, .int 0, .ref rc, .int 0, .int 0])), (st, .inr (3, [.ref kd, .ref it, .ref pa])), (pa, .inl (cI, 16, .inl (fun _ => -1)))]) (fun _ _ h9 => h9) (fun r3 _ H locs hp4 hP hD hS => ?_)
    have hP : va_P D cL [(h, .inr (6, [.ref st, .int 0, .ref fl, .ref fn, .ref li, .int 0, .ref rc, .int 0, .int 0])), (st, .inr (3, [.ref kd, .ref it, .ref pa])), (pa, .inl (cI, 16, .inl (fun _ => -1)))] H := hP
    have hD : va_D A [(h, .inr (6, [.ref st, .int 0, .ref fl, .ref fn, .ref li, .int 0, .ref rc, .int 0, .int 0])), (st, .inr (3, [.ref kd, .ref it, .ref pa])), (pa, .inl (cI, 16, .inl (fun _ => -1)))] := hD
    obtain rfl : r3 = 0 := hp4
    refine lv_if_eq hx hb d_World_sweep_69 (tgt := 99) (by decide) (fun _ => ?_) (fun hz => absurd (by decide) hz)
    refine lv_iinc (v := (nI (k1 + 1))) (lv' := [(2, .int (nI (k1 + 1))), (1, .int 0), (0, .ref h)]) hx hb d_World_sweep_99 hl (k := 0) rfl (nI_1 k1) (by decide) rfl (fun ls hl => ?_)
    refine lv_goto hx hb d_World_sweep_102 (tgt := 58) (by decide) ?_
    exact ih2 hkk1 _ _ _ ⟨hP, hD, hS, lv_sub hl [0, 1, 2] rfl⟩
  · obtain rfl : k1 = 32 := by omega
    have hl : lv_has ls 3 [(2, .int 32), (1, .int 0), (0, .ref h)] := hl
    refine lv_iload_n hx hb d_World_sweep_58 rfl (lv_at hl 0 rfl) ?_
    refine lv_bipush (v := 32) hx hb d_World_sweep_59 (by decide) ?_
    refine lv_icmp_ge hx hb d_World_sweep_61 (tgt := 105) (by decide) (fun _ => ?_) (fun hz => absurd (by decide) hz)
    refine lv_iload_n hx hb d_World_sweep_105 rfl (lv_at hl 1 rfl) ?_
    exact end_i hx hb hr hlocks hS (u := ()) (r := 0) (at_end (hP.sub (ws' := []) [] rfl) (hD.sub (ws' := []) [] (by decide) rfl)) (rfl) (Nat.le_of_ble_eq_true rfl) (Nat.le_of_ble_eq_true rfl) d_World_sweep_106

set_option maxHeartbeats 4000000 in
set_option maxRecDepth 100000 in
theorem c_World_descends (l : Launch) (D : va_G) (cI cZ cJ : ClassId) (h st fl fn li rc kd it pa : Nat) (oo pp : Int32) (sz : Nat)  : Met l y_World_descends (.code y_World_descends prog_8_method_17_code 3 (some .boolean) :: AW) ({ frames := 2, cells := 0, slots := 0, locals := 42 }) (va_Pc [.ref h, .int oo, .int pp] (pre_ D [(h, .inr (6, [.ref st, .int 0, .ref fl, .ref fn, .ref li, .int 0, .ref rc, .int 0, .int 0])), (st, .inr (3, [.ref kd, .ref it, .ref pa])), (pa, .inl (cI, 16, .inl (fun _ => -1)))] [(cI, .int), (cZ, .boolean), (cJ, .long)] sz)) (va_Qi (fun (r : Int32) (u : Unit) => r = 0) (fun _ t => post_ D (va_A [(h, .inr (6, [.ref st, .int 0, .ref fl, .ref fn, .ref li, .int 0, .ref rc, .int 0, .int 0])), (st, .inr (3, [.ref kd, .ref it, .ref pa])), (pa, .inl (cI, 16, .inl (fun _ => -1)))] sz) [] t) (va_A [(h, .inr (6, [.ref st, .int 0, .ref fl, .ref fn, .ref li, .int 0, .ref rc, .int 0, .int 0])), (st, .inr (3, [.ref kd, .ref it, .ref pa])), (pa, .inl (cI, 16, .inl (fun _ => -1)))] sz)) 0 0 (va_A [(h, .inr (6, [.ref st, .int 0, .ref fl, .ref fn, .ref li, .int 0, .ref rc, .int 0, .int 0])), (st, .inr (3, [.ref kd, .ref it, .ref pa])), (pa, .inl (cI, 16, .inl (fun _ => -1)))] sz) := by
  refine Met.ofW (cc := prog_8_method_17_code) (maxL := 3) (ret := (some .boolean)) (by decide) rfl ?_
  intro p e s m args below meth c s₁ B hml hv
  obtain ⟨rfl, rfl, hP, hK, hD0, hT⟩ := hv
  have hx := B.exec
  have hb := B.bytes
  have hr := B.returns
  have hts0 := atoms_spec (ws := .code y_World_descends prog_8_method_17_code 3 (some .boolean) :: AW) B.pre
  have hts : ∀ w ∈ AW, w.before [.ref h, .int oo, .int pp].toArray s = true := fun w h => hts0 w (List.mem_cons_of_mem _ h)
  have hown : s.vm.findClass "TaleMachine$World" = some m.cls := findClass_of_methodNamed B.named
  have hlocks := B.notSynchronized
  have hD := hD0.self (sz := s.heap.size)
  generalize hAe : va_A [(h, .inr (6, [.ref st, .int 0, .ref fl, .ref fn, .ref li, .int 0, .ref rc, .int 0, .int 0])), (st, .inr (3, [.ref kd, .ref it, .ref pa])), (pa, .inl (cI, 16, .inl (fun _ => -1)))] s.heap.size = A at hD ⊢
  have hA : ∀ q : Nat, s.heap.size ≤ q → A q := fun q h => by rw [← hAe]; exact Or.inr h
  have hS : va_S A s.heap s.heap [] := va_S.rf
  have hl := lv_entry ([.ref h, .int oo, .int pp]) (n := 3) (Nat.le_of_ble_eq_true rfl)
  rw [lg_entry_eq]
  generalize (lg_sl ([.ref h, .int oo, .int pp]) ++ List.replicate (3 - (lg_sl ([.ref h, .int oo, .int pp])).length) Slot.unset).toArray = ls at hl ⊢
  have hl : lv_has ls 3 [(0, .ref h), (1, .int oo), (2, .int pp)] := hl
  refine lv_aload_n hx hb d_World_descends_0 rfl (lv_at hl 0 rfl) ?_
  refine lv_iload_n hx hb d_World_descends_1 rfl (lv_at hl 1 rfl) ?_
  refine mv_i (va_runV (C := "TaleMachine$World") (As := [.int oo]) (rest := []) ⟨hx, hb, hml, hown, hts⟩ (c_World_isThere l D cI cZ cJ h st fl fn li rc kd it pa oo _ ) (cwV 1 hts (gInV k_138 k_139 k_140 k_106 k_137) rfl rfl rfl (by decide +kernel) ⟨Nat.le_of_ble_eq_true rfl, Nat.le_of_ble_eq_true rfl⟩) (pre_V (va_recv hK hP (q := ("TaleMachine$World", F_World, 9)) rfl (q0 := 0) rfl) (hP.sub [0, 1, 2] rfl) (hK.sub [0, 1, 2] rfl) (hD.sub [0, 1, 2] (by decide) rfl) hT) rfl rfl hl.1 rfl (lv_room (Nat.le_of_ble_eq_true rfl)) d_World_descends_2 ⟨Nat.le_of_ble_eq_true rfl, Nat.le_of_ble_eq_true rfl⟩) hP hD hS hA [0, 1, 2] [] rfl rfl (by decide) (by decide) (wr := []) (wn := fun _ => [(h, .inr (6, [.ref st, .int 0, .ref fl, .ref fn, .ref li, .int 0, .ref rc, .int 0, .int 0])), (st, .inr (3, [.ref kd, .ref it, .ref pa])), (pa, .inl (cI, 16, .inl (fun _ => -1)))]) (fun _ _ h9 => h9) (fun r1 _ H locs hp2 hP hD hS => ?_)
  have hP : va_P D cL [(h, .inr (6, [.ref st, .int 0, .ref fl, .ref fn, .ref li, .int 0, .ref rc, .int 0, .int 0])), (st, .inr (3, [.ref kd, .ref it, .ref pa])), (pa, .inl (cI, 16, .inl (fun _ => -1)))] H := hP
  have hD : va_D A [(h, .inr (6, [.ref st, .int 0, .ref fl, .ref fn, .ref li, .int 0, .ref rc, .int 0, .int 0])), (st, .inr (3, [.ref kd, .ref it, .ref pa])), (pa, .inl (cI, 16, .inl (fun _ => -1)))] := hD
  obtain rfl : r1 = 0 := hp2
  refine lv_if_eq hx hb d_World_descends_5 (tgt := 16) (by decide) (fun _ => ?_) (fun hz => absurd (by decide) hz)
  refine lv_iconst (v := 0) hx hb d_World_descends_16 (by decide) ?_
  exact end_z hx hb hr hlocks hS (u := ()) (r := 0) (at_end (hP.sub (ws' := []) [] rfl) (hD.sub (ws' := []) [] (by decide) rfl)) (rfl) (by decide) (Nat.le_of_ble_eq_true rfl) (Nat.le_of_ble_eq_true rfl) d_World_descends_17

set_option maxHeartbeats 4000000 in
set_option maxRecDepth 100000 in
theorem c_Teller_reachRoots (l : Launch) (D : va_G) (cI cZ cJ : ClassId) (h sc wo hi fr va sa re vk vi sk si rk ri : Nat) (sz : Nat)  : Met l y_Teller_reachRoots (.code y_Teller_reachRoots prog_6_method_6_code 2 none :: AW) ({ frames := 0, cells := 0, slots := 0, locals := 0 }) (va_Pc [.ref h] (pre_ D [(h, .inr (4, [.ref sc, .ref wo, .ref hi, .ref fr, .ref va, .ref sa, .ref re, .int 0, .int (-1)])), (va, .inr (5, [.ref vk, .ref vi, .int 0])), (sa, .inr (5, [.ref sk, .ref si, .int 0])), (re, .inr (5, [.ref rk, .ref ri, .int 0]))] [(cI, .int), (cZ, .boolean), (cJ, .long)] sz)) (va_Qv (fun (u : Unit) => True) (fun _ t => post_ D (va_A [(h, .inr (4, [.ref sc, .ref wo, .ref hi, .ref fr, .ref va, .ref sa, .ref re, .int 0, .int (-1)])), (va, .inr (5, [.ref vk, .ref vi, .int 0])), (sa, .inr (5, [.ref sk, .ref si, .int 0])), (re, .inr (5, [.ref rk, .ref ri, .int 0]))] sz) [] t) (va_A [(h, .inr (4, [.ref sc, .ref wo, .ref hi, .ref fr, .ref va, .ref sa, .ref re, .int 0, .int (-1)])), (va, .inr (5, [.ref vk, .ref vi, .int 0])), (sa, .inr (5, [.ref sk, .ref si, .int 0])), (re, .inr (5, [.ref rk, .ref ri, .int 0]))] sz)) 0 0 (va_A [(h, .inr (4, [.ref sc, .ref wo, .ref hi, .ref fr, .ref va, .ref sa, .ref re, .int 0, .int (-1)])), (va, .inr (5, [.ref vk, .ref vi, .int 0])), (sa, .inr (5, [.ref sk, .ref si, .int 0])), (re, .inr (5, [.ref rk, .ref ri, .int 0]))] sz) := by
  refine Met.ofW (cc := prog_6_method_6_code) (maxL := 2) (ret := none) (by decide) rfl ?_
  intro p e s m args below meth c s₁ B hml hv
  obtain ⟨rfl, rfl, hP, hK, hD0, hT⟩ := hv
  have hx := B.exec
  have hb := B.bytes
  have hr := B.returns
  have hts0 := atoms_spec (ws := .code y_Teller_reachRoots prog_6_method_6_code 2 none :: AW) B.pre
  have hts : ∀ w ∈ AW, w.before [.ref h].toArray s = true := fun w h => hts0 w (List.mem_cons_of_mem _ h)
  have hown : s.vm.findClass "TaleMachine$Teller" = some m.cls := findClass_of_methodNamed B.named
  have hlocks := B.notSynchronized
  have hD := hD0.self (sz := s.heap.size)
  generalize hAe : va_A [(h, .inr (4, [.ref sc, .ref wo, .ref hi, .ref fr, .ref va, .ref sa, .ref re, .int 0, .int (-1)])), (va, .inr (5, [.ref vk, .ref vi, .int 0])), (sa, .inr (5, [.ref sk, .ref si, .int 0])), (re, .inr (5, [.ref rk, .ref ri, .int 0]))] s.heap.size = A at hD ⊢
  have hA : ∀ q : Nat, s.heap.size ≤ q → A q := fun q h => by rw [← hAe]; exact Or.inr h
  have hS : va_S A s.heap s.heap [] := va_S.rf
  have hl := lv_entry ([.ref h]) (n := 2) (Nat.le_of_ble_eq_true rfl)
  rw [lg_entry_eq]
  generalize (lg_sl ([.ref h]) ++ List.replicate (2 - (lg_sl ([.ref h])).length) Slot.unset).toArray = ls at hl ⊢
  have hl : lv_has ls 2 [(0, .ref h)] := hl
  refine lv_iconst (v := 0) hx hb d_Teller_reachRoots_0 (by decide) ?_
  refine lv_istore_n (lv' := [(1, .int 0), (0, .ref h)]) hx hb d_Teller_reachRoots_1 rfl hl (by decide) rfl (fun ls hl => ?_)
  refine lv_iload_n hx hb d_Teller_reachRoots_2 rfl (lv_at hl 0 rfl) ?_
  refine lv_aload_n hx hb d_Teller_reachRoots_3 rfl (lv_at hl 1 rfl) ?_
  refine va_get (D := D) (ci := 4) (v := .ref va) (C := "TaleMachine$Teller") (T := F_Teller) (N := 9) hx hb hts in_Teller hown hK hP 0 rfl rfl 4 (by decide) (hts _ k_86) (fun _ h9 => h9) rfl d_Teller_reachRoots_4 ?_
  refine va_get (D := D) (ci := 5) (v := .int 0) (C := "TaleMachine$Values") (T := F_Values) (N := 3) hx hb hts in_Values hown hK hP 1 rfl rfl 2 (by decide) (hts _ k_141) (fun _ h9 => h9) rfl d_Teller_reachRoots_7 ?_
  refine lv_icmp_ge hx hb d_Teller_reachRoots_10 (tgt := 44) (by decide) (fun _ => ?_) (fun hz => absurd (by decide) hz)
  refine lv_iconst (v := 0) hx hb d_Teller_reachRoots_44 (by decide) ?_
  refine lv_istore_n (lv' := [(1, .int 0), (0, .ref h)]) hx hb d_Teller_reachRoots_45 rfl hl (by decide) rfl (fun ls hl => ?_)
  refine lv_iload_n hx hb d_Teller_reachRoots_46 rfl (lv_at hl 0 rfl) ?_
  refine lv_aload_n hx hb d_Teller_reachRoots_47 rfl (lv_at hl 1 rfl) ?_
  refine va_get (D := D) (ci := 4) (v := .int 0) (C := "TaleMachine$Teller") (T := F_Teller) (N := 9) hx hb hts in_Teller hown hK hP 0 rfl rfl 7 (by decide) (hts _ k_142) (fun _ h9 => h9) rfl d_Teller_reachRoots_48 ?_
  refine lv_icmp_ge hx hb d_Teller_reachRoots_51 (tgt := 92) (by decide) (fun _ => ?_) (fun hz => absurd (by decide) hz)
  refine lv_aload_n hx hb d_Teller_reachRoots_92 rfl (lv_at hl 1 rfl) ?_
  refine va_get (D := D) (ci := 4) (v := .ref re) (C := "TaleMachine$Teller") (T := F_Teller) (N := 9) hx hb hts in_Teller hown hK hP 0 rfl rfl 6 (by decide) (hts _ k_88) (fun _ h9 => h9) rfl d_Teller_reachRoots_93 ?_
  refine va_get (D := D) (ci := 5) (v := .int 0) (C := "TaleMachine$Values") (T := F_Values) (N := 3) hx hb hts in_Values hown hK hP 3 rfl rfl 2 (by decide) (hts _ k_141) (fun _ h9 => h9) rfl d_Teller_reachRoots_96 ?_
  refine lv_if_le hx hb d_Teller_reachRoots_99 (tgt := 127) (by decide) (fun _ => ?_) (fun hz => absurd (by decide) hz)
  exact end_v hx hb hr hlocks hS (u := ()) (at_end (hP.sub (ws' := []) [] rfl) (hD.sub (ws' := []) [] (by decide) rfl)) (trivial) (Nat.le_of_ble_eq_true rfl) (Nat.le_of_ble_eq_true rfl) d_Teller_reachRoots_127

set_option maxHeartbeats 4000000 in
set_option maxRecDepth 100000 in
theorem c_TM_collect (l : Launch) (D : va_G) (cI cZ cJ : ClassId) (h sc by_ wo st fl fn li rc kd it pa hi pt sv iz te fr va sa re vk vi sk si rk ri : Nat) (sz : Nat)  : Met l y_TM_collect (.code y_TM_collect prog_1_method_8_code 1 (some .int) :: AW) ({ frames := 3, cells := 0, slots := 0, locals := 64 }) (va_Pc [.ref h] (pre_ D [(h, .inr (7, [.ref sc, .ref wo, .ref hi, .ref te])), (wo, .inr (6, [.ref st, .int 0, .ref fl, .ref fn, .ref li, .int 0, .ref rc, .int 0, .int 0])), (st, .inr (3, [.ref kd, .ref it, .ref pa])), (pa, .inl (cI, 16, .inl (fun _ => -1))), (te, .inr (4, [.ref sc, .ref wo, .ref hi, .ref fr, .ref va, .ref sa, .ref re, .int 0, .int (-1)])), (va, .inr (5, [.ref vk, .ref vi, .int 0])), (sa, .inr (5, [.ref sk, .ref si, .int 0])), (re, .inr (5, [.ref rk, .ref ri, .int 0]))] [(cI, .int), (cZ, .boolean), (cJ, .long)] sz)) (va_Qi (fun (r : Int32) (u : Unit) => r = 0) (fun _ t => post_ D (va_A [(h, .inr (7, [.ref sc, .ref wo, .ref hi, .ref te])), (wo, .inr (6, [.ref st, .int 0, .ref fl, .ref fn, .ref li, .int 0, .ref rc, .int 0, .int 0])), (st, .inr (3, [.ref kd, .ref it, .ref pa])), (pa, .inl (cI, 16, .inl (fun _ => -1))), (te, .inr (4, [.ref sc, .ref wo, .ref hi, .ref fr, .ref va, .ref sa, .ref re, .int 0, .int (-1)])), (va, .inr (5, [.ref vk, .ref vi, .int 0])), (sa, .inr (5, [.ref sk, .ref si, .int 0])), (re, .inr (5, [.ref rk, .ref ri, .int 0]))] sz) [] t) (va_A [(h, .inr (7, [.ref sc, .ref wo, .ref hi, .ref te])), (wo, .inr (6, [.ref st, .int 0, .ref fl, .ref fn, .ref li, .int 0, .ref rc, .int 0, .int 0])), (st, .inr (3, [.ref kd, .ref it, .ref pa])), (pa, .inl (cI, 16, .inl (fun _ => -1))), (te, .inr (4, [.ref sc, .ref wo, .ref hi, .ref fr, .ref va, .ref sa, .ref re, .int 0, .int (-1)])), (va, .inr (5, [.ref vk, .ref vi, .int 0])), (sa, .inr (5, [.ref sk, .ref si, .int 0])), (re, .inr (5, [.ref rk, .ref ri, .int 0]))] sz)) 0 0 (va_A [(h, .inr (7, [.ref sc, .ref wo, .ref hi, .ref te])), (wo, .inr (6, [.ref st, .int 0, .ref fl, .ref fn, .ref li, .int 0, .ref rc, .int 0, .int 0])), (st, .inr (3, [.ref kd, .ref it, .ref pa])), (pa, .inl (cI, 16, .inl (fun _ => -1))), (te, .inr (4, [.ref sc, .ref wo, .ref hi, .ref fr, .ref va, .ref sa, .ref re, .int 0, .int (-1)])), (va, .inr (5, [.ref vk, .ref vi, .int 0])), (sa, .inr (5, [.ref sk, .ref si, .int 0])), (re, .inr (5, [.ref rk, .ref ri, .int 0]))] sz) := by
  refine Met.ofW (cc := prog_1_method_8_code) (maxL := 1) (ret := (some .int)) (by decide) rfl ?_
  intro p e s m args below meth c s₁ B hml hv
  obtain ⟨rfl, rfl, hP, hK, hD0, hT⟩ := hv
  have hx := B.exec
  have hb := B.bytes
  have hr := B.returns
  have hts0 := atoms_spec (ws := .code y_TM_collect prog_1_method_8_code 1 (some .int) :: AW) B.pre
  have hts : ∀ w ∈ AW, w.before [.ref h].toArray s = true := fun w h => hts0 w (List.mem_cons_of_mem _ h)
  have hown : s.vm.findClass "TaleMachine" = some m.cls := findClass_of_methodNamed B.named
  have hlocks := B.notSynchronized
  have hD := hD0.self (sz := s.heap.size)
  generalize hAe : va_A [(h, .inr (7, [.ref sc, .ref wo, .ref hi, .ref te])), (wo, .inr (6, [.ref st, .int 0, .ref fl, .ref fn, .ref li, .int 0, .ref rc, .int 0, .int 0])), (st, .inr (3, [.ref kd, .ref it, .ref pa])), (pa, .inl (cI, 16, .inl (fun _ => -1))), (te, .inr (4, [.ref sc, .ref wo, .ref hi, .ref fr, .ref va, .ref sa, .ref re, .int 0, .int (-1)])), (va, .inr (5, [.ref vk, .ref vi, .int 0])), (sa, .inr (5, [.ref sk, .ref si, .int 0])), (re, .inr (5, [.ref rk, .ref ri, .int 0]))] s.heap.size = A at hD ⊢
  have hA : ∀ q : Nat, s.heap.size ≤ q → A q := fun q h => by rw [← hAe]; exact Or.inr h
  have hS : va_S A s.heap s.heap [] := va_S.rf
  have hl := lv_entry ([.ref h]) (n := 1) (Nat.le_of_ble_eq_true rfl)
  rw [lg_entry_eq]
  generalize (lg_sl ([.ref h]) ++ List.replicate (1 - (lg_sl ([.ref h])).length) Slot.unset).toArray = ls at hl ⊢
  have hl : lv_has ls 1 [(0, .ref h)] := hl
  refine lv_aload_n hx hb d_TM_collect_0 rfl (lv_at hl 0 rfl) ?_
  refine va_get (D := D) (ci := 7) (v := .ref wo) (C := "TaleMachine") (T := F_TM) (N := 4) hx hb hts in_TM hown hK hP 0 rfl rfl 1 (by decide) (hts _ k_109) (fun _ h9 => h9) rfl d_TM_collect_1 ?_
  refine mv_v (va_runV (C := "TaleMachine$World") (As := []) (rest := []) ⟨hx, hb, hml, hown, hts⟩ (c_World_forget l D cI cZ cJ wo st fl fn li rc 0 0 0 _ ) (cwV 0 hts (gInV k_144 k_145 k_146 k_106 k_143) rfl rfl rfl (by decide +kernel) ⟨Nat.le_of_ble_eq_true rfl, Nat.le_of_ble_eq_true rfl⟩) (pre_V (va_recv hK hP (q := ("TaleMachine$World", F_World, 9)) rfl (q0 := 1) rfl) (hP.sub [1] rfl) (hK.sub [0, 1, 2] rfl) (hD.sub [1] (by decide) rfl) hT) rfl rfl hl.1 rfl (lv_room (Nat.le_of_ble_eq_true rfl)) d_TM_collect_4 ⟨Nat.le_of_ble_eq_true rfl, Nat.le_of_ble_eq_true rfl⟩) hP hD hS hA [1] [0, 2, 3, 4, 5, 6, 7] rfl rfl (by decide) (by decide) (wr := [(h, .inr (7, [.ref sc, .ref wo, .ref hi, .ref te])), (st, .inr (3, [.ref kd, .ref it, .ref pa])), (pa, .inl (cI, 16, .inl (fun _ => -1))), (te, .inr (4, [.ref sc, .ref wo, .ref hi, .ref fr, .ref va, .ref sa, .ref re, .int 0, .int (-1)])), (va, .inr (5, [.ref vk, .ref vi, .int 0])), (sa, .inr (5, [.ref sk, .ref si, .int 0])), (re, .inr (5, [.ref rk, .ref ri, .int 0]))]) (wn := fun _ => [(wo, .inr (6, [.ref st, .int 0, .ref fl, .ref fn, .ref li, .int 0, .ref rc, .int 0, .int 0]))]) (fun _ _ h9 => h9) (fun _ H locs hp2 hP hD hS => ?_)
  have hP : va_P D cL [(h, .inr (7, [.ref sc, .ref wo, .ref hi, .ref te])), (st, .inr (3, [.ref kd, .ref it, .ref pa])), (pa, .inl (cI, 16, .inl (fun _ => -1))), (te, .inr (4, [.ref sc, .ref wo, .ref hi, .ref fr, .ref va, .ref sa, .ref re, .int 0, .int (-1)])), (va, .inr (5, [.ref vk, .ref vi, .int 0])), (sa, .inr (5, [.ref sk, .ref si, .int 0])), (re, .inr (5, [.ref rk, .ref ri, .int 0])), (wo, .inr (6, [.ref st, .int 0, .ref fl, .ref fn, .ref li, .int 0, .ref rc, .int 0, .int 0]))] H := hP
  have hD : va_D A [(h, .inr (7, [.ref sc, .ref wo, .ref hi, .ref te])), (st, .inr (3, [.ref kd, .ref it, .ref pa])), (pa, .inl (cI, 16, .inl (fun _ => -1))), (te, .inr (4, [.ref sc, .ref wo, .ref hi, .ref fr, .ref va, .ref sa, .ref re, .int 0, .int (-1)])), (va, .inr (5, [.ref vk, .ref vi, .int 0])), (sa, .inr (5, [.ref sk, .ref si, .int 0])), (re, .inr (5, [.ref rk, .ref ri, .int 0])), (wo, .inr (6, [.ref st, .int 0, .ref fl, .ref fn, .ref li, .int 0, .ref rc, .int 0, .int 0]))] := hD
  refine lv_aload_n hx hb d_TM_collect_7 rfl (lv_at hl 0 rfl) ?_
  refine va_get (D := D) (ci := 7) (v := .ref te) (C := "TaleMachine") (T := F_TM) (N := 4) hx hb hts in_TM hown hK hP 0 rfl rfl 3 (by decide) (hts _ k_123) (fun _ h9 => h9) rfl d_TM_collect_8 ?_
  refine mv_v (va_runV (C := "TaleMachine$Teller") (As := []) (rest := []) ⟨hx, hb, hml, hown, hts⟩ (c_Teller_reachRoots l D cI cZ cJ te sc wo hi fr va sa re vk vi sk si rk ri _ ) (cwV 0 hts (gInV k_148 k_149 k_150 k_119 k_147) rfl rfl rfl (by decide +kernel) ⟨Nat.le_of_ble_eq_true rfl, Nat.le_of_ble_eq_true rfl⟩) (pre_V (va_recv hK hP (q := ("TaleMachine$Teller", F_Teller, 9)) rfl (q0 := 3) rfl) (hP.sub [3, 4, 5, 6] rfl) (hK.sub [0, 1, 2] rfl) (hD.sub [3, 4, 5, 6] (by decide) rfl) hT) rfl rfl hl.1 rfl (lv_room (Nat.le_of_ble_eq_true rfl)) d_TM_collect_11 ⟨Nat.le_of_ble_eq_true rfl, Nat.le_of_ble_eq_true rfl⟩) hP hD hS hA [3, 4, 5, 6] [0, 1, 2, 7] rfl rfl (by decide) (by decide) (wr := [(h, .inr (7, [.ref sc, .ref wo, .ref hi, .ref te])), (st, .inr (3, [.ref kd, .ref it, .ref pa])), (pa, .inl (cI, 16, .inl (fun _ => -1))), (wo, .inr (6, [.ref st, .int 0, .ref fl, .ref fn, .ref li, .int 0, .ref rc, .int 0, .int 0]))]) (wn := fun _ => []) (fun _ _ h9 => h9) (fun _ H locs hp4 hP hD hS => ?_)
  have hP : va_P D cL [(h, .inr (7, [.ref sc, .ref wo, .ref hi, .ref te])), (st, .inr (3, [.ref kd, .ref it, .ref pa])), (pa, .inl (cI, 16, .inl (fun _ => -1))), (wo, .inr (6, [.ref st, .int 0, .ref fl, .ref fn, .ref li, .int 0, .ref rc, .int 0, .int 0]))] H := hP
  have hD : va_D A [(h, .inr (7, [.ref sc, .ref wo, .ref hi, .ref te])), (st, .inr (3, [.ref kd, .ref it, .ref pa])), (pa, .inl (cI, 16, .inl (fun _ => -1))), (wo, .inr (6, [.ref st, .int 0, .ref fl, .ref fn, .ref li, .int 0, .ref rc, .int 0, .int 0]))] := hD
  refine lv_aload_n hx hb d_TM_collect_14 rfl (lv_at hl 0 rfl) ?_
  refine va_get (D := D) (ci := 7) (v := .ref wo) (C := "TaleMachine") (T := F_TM) (N := 4) hx hb hts in_TM hown hK hP 0 rfl rfl 1 (by decide) (hts _ k_109) (fun _ h9 => h9) rfl d_TM_collect_15 ?_
  refine mv_i (va_runV (C := "TaleMachine$World") (As := []) (rest := []) ⟨hx, hb, hml, hown, hts⟩ (c_World_sweep l D cI cZ cJ wo st fl fn li rc kd it pa _ ) (cwV 0 hts (gInV k_152 k_153 k_154 k_106 k_151) rfl rfl rfl (by decide +kernel) ⟨Nat.le_of_ble_eq_true rfl, Nat.le_of_ble_eq_true rfl⟩) (pre_V (va_recv hK hP (q := ("TaleMachine$World", F_World, 9)) rfl (q0 := 3) rfl) (hP.sub [3, 1, 2] rfl) (hK.sub [0, 1, 2] rfl) (hD.sub [3, 1, 2] (by decide) rfl) hT) rfl rfl hl.1 rfl (lv_room (Nat.le_of_ble_eq_true rfl)) d_TM_collect_18 ⟨Nat.le_of_ble_eq_true rfl, Nat.le_of_ble_eq_true rfl⟩) hP hD hS hA [3, 1, 2] [0] rfl rfl (by decide) (by decide) (wr := [(h, .inr (7, [.ref sc, .ref wo, .ref hi, .ref te]))]) (wn := fun _ => []) (fun _ _ h9 => h9) (fun r5 _ H locs hp6 hP hD hS => ?_)
  have hP : va_P D cL [(h, .inr (7, [.ref sc, .ref wo, .ref hi, .ref te]))] H := hP
  have hD : va_D A [(h, .inr (7, [.ref sc, .ref wo, .ref hi, .ref te]))] := hD
  obtain rfl : r5 = 0 := hp6
  exact end_i hx hb hr hlocks hS (u := ()) (r := 0) (at_end (hP.sub (ws' := []) [] rfl) (hD.sub (ws' := []) [] (by decide) rfl)) (rfl) (Nat.le_of_ble_eq_true rfl) (Nat.le_of_ble_eq_true rfl) d_TM_collect_21

set_option maxHeartbeats 4000000 in
set_option maxRecDepth 100000 in
theorem c_TM_isOf (l : Launch) (D : va_G) (cI cZ cJ : ClassId) (h sc by_ wo st fl fn li rc kd it pa hi pt sv iz te fr va sa re vk vi sk si rk ri : Nat) (oo pp : Int32) (sz : Nat)  : Met l y_TM_isOf (.code y_TM_isOf prog_1_method_13_code 3 (some .boolean) :: AW) ({ frames := 3, cells := 0, slots := 0, locals := 64 }) (va_Pc [.ref h, .int oo, .int pp] (pre_ D [(h, .inr (7, [.ref sc, .ref wo, .ref hi, .ref te])), (wo, .inr (6, [.ref st, .int 0, .ref fl, .ref fn, .ref li, .int 0, .ref rc, .int 0, .int 0])), (st, .inr (3, [.ref kd, .ref it, .ref pa])), (pa, .inl (cI, 16, .inl (fun _ => -1)))] [(cI, .int), (cZ, .boolean), (cJ, .long)] sz)) (va_Qi (fun (r : Int32) (u : Unit) => r = 0) (fun _ t => post_ D (va_A [(h, .inr (7, [.ref sc, .ref wo, .ref hi, .ref te])), (wo, .inr (6, [.ref st, .int 0, .ref fl, .ref fn, .ref li, .int 0, .ref rc, .int 0, .int 0])), (st, .inr (3, [.ref kd, .ref it, .ref pa])), (pa, .inl (cI, 16, .inl (fun _ => -1)))] sz) [] t) (va_A [(h, .inr (7, [.ref sc, .ref wo, .ref hi, .ref te])), (wo, .inr (6, [.ref st, .int 0, .ref fl, .ref fn, .ref li, .int 0, .ref rc, .int 0, .int 0])), (st, .inr (3, [.ref kd, .ref it, .ref pa])), (pa, .inl (cI, 16, .inl (fun _ => -1)))] sz)) 0 0 (va_A [(h, .inr (7, [.ref sc, .ref wo, .ref hi, .ref te])), (wo, .inr (6, [.ref st, .int 0, .ref fl, .ref fn, .ref li, .int 0, .ref rc, .int 0, .int 0])), (st, .inr (3, [.ref kd, .ref it, .ref pa])), (pa, .inl (cI, 16, .inl (fun _ => -1)))] sz) := by
  refine Met.ofW (cc := prog_1_method_13_code) (maxL := 3) (ret := (some .boolean)) (by decide) rfl ?_
  intro p e s m args below meth c s₁ B hml hv
  obtain ⟨rfl, rfl, hP, hK, hD0, hT⟩ := hv
  have hx := B.exec
  have hb := B.bytes
  have hr := B.returns
  have hts0 := atoms_spec (ws := .code y_TM_isOf prog_1_method_13_code 3 (some .boolean) :: AW) B.pre
  have hts : ∀ w ∈ AW, w.before [.ref h, .int oo, .int pp].toArray s = true := fun w h => hts0 w (List.mem_cons_of_mem _ h)
  have hown : s.vm.findClass "TaleMachine" = some m.cls := findClass_of_methodNamed B.named
  have hlocks := B.notSynchronized
  have hD := hD0.self (sz := s.heap.size)
  generalize hAe : va_A [(h, .inr (7, [.ref sc, .ref wo, .ref hi, .ref te])), (wo, .inr (6, [.ref st, .int 0, .ref fl, .ref fn, .ref li, .int 0, .ref rc, .int 0, .int 0])), (st, .inr (3, [.ref kd, .ref it, .ref pa])), (pa, .inl (cI, 16, .inl (fun _ => -1)))] s.heap.size = A at hD ⊢
  have hA : ∀ q : Nat, s.heap.size ≤ q → A q := fun q h => by rw [← hAe]; exact Or.inr h
  have hS : va_S A s.heap s.heap [] := va_S.rf
  have hl := lv_entry ([.ref h, .int oo, .int pp]) (n := 3) (Nat.le_of_ble_eq_true rfl)
  rw [lg_entry_eq]
  generalize (lg_sl ([.ref h, .int oo, .int pp]) ++ List.replicate (3 - (lg_sl ([.ref h, .int oo, .int pp])).length) Slot.unset).toArray = ls at hl ⊢
  have hl : lv_has ls 3 [(0, .ref h), (1, .int oo), (2, .int pp)] := hl
  refine lv_aload_n hx hb d_TM_isOf_0 rfl (lv_at hl 0 rfl) ?_
  refine va_get (D := D) (ci := 7) (v := .ref wo) (C := "TaleMachine") (T := F_TM) (N := 4) hx hb hts in_TM hown hK hP 0 rfl rfl 1 (by decide) (hts _ k_109) (fun _ h9 => h9) rfl d_TM_isOf_1 ?_
  refine lv_iload_n hx hb d_TM_isOf_4 rfl (lv_at hl 1 rfl) ?_
  refine lv_iload_n hx hb d_TM_isOf_5 rfl (lv_at hl 2 rfl) ?_
  refine mv_i (va_runV (C := "TaleMachine$World") (As := [.int oo, .int pp]) (rest := []) ⟨hx, hb, hml, hown, hts⟩ (c_World_descends l D cI cZ cJ wo st fl fn li rc kd it pa oo pp _ ) (cwV 2 hts (gInV k_156 k_157 k_158 k_106 k_155) rfl rfl rfl (by decide +kernel) ⟨Nat.le_of_ble_eq_true rfl, Nat.le_of_ble_eq_true rfl⟩) (pre_V (va_recv hK hP (q := ("TaleMachine$World", F_World, 9)) rfl (q0 := 1) rfl) (hP.sub [1, 2, 3] rfl) (hK.sub [0, 1, 2] rfl) (hD.sub [1, 2, 3] (by decide) rfl) hT) rfl rfl hl.1 rfl (lv_room (Nat.le_of_ble_eq_true rfl)) d_TM_isOf_6 ⟨Nat.le_of_ble_eq_true rfl, Nat.le_of_ble_eq_true rfl⟩) hP hD hS hA [1, 2, 3] [0] rfl rfl (by decide) (by decide) (wr := [(h, .inr (7, [.ref sc, .ref wo, .ref hi, .ref te]))]) (wn := fun _ => []) (fun _ _ h9 => h9) (fun r1 _ H locs hp2 hP hD hS => ?_)
  have hP : va_P D cL [(h, .inr (7, [.ref sc, .ref wo, .ref hi, .ref te]))] H := hP
  have hD : va_D A [(h, .inr (7, [.ref sc, .ref wo, .ref hi, .ref te]))] := hD
  obtain rfl : r1 = 0 := hp2
  exact end_z hx hb hr hlocks hS (u := ()) (r := 0) (at_end (hP.sub (ws' := []) [] rfl) (hD.sub (ws' := []) [] (by decide) rfl)) (rfl) (by decide) (Nat.le_of_ble_eq_true rfl) (Nat.le_of_ble_eq_true rfl) d_TM_isOf_9

set_option maxHeartbeats 4000000 in
set_option maxRecDepth 100000 in
theorem c_TM_stop (l : Launch) (D : va_G) (cI cZ cJ : ClassId) (h sc by_ wo st fl fn li rc kd it pa hi pt sv iz te fr va sa re vk vi sk si rk ri : Nat) (sz : Nat)  : Met l y_TM_stop (.code y_TM_stop prog_1_method_7_code 1 (some .boolean) :: AW) ({ frames := 0, cells := 0, slots := 0, locals := 0 }) (va_Pc [.ref h] (pre_ D [(h, .inr (7, [.ref sc, .ref wo, .ref hi, .ref te])), (te, .inr (4, [.ref sc, .ref wo, .ref hi, .ref fr, .ref va, .ref sa, .ref re, .int 0, .int (-1)]))] [(cI, .int), (cZ, .boolean), (cJ, .long)] sz)) (va_Qi (fun (r : Int32) (u : Unit) => r = 0) (fun _ t => post_ D (va_A [(h, .inr (7, [.ref sc, .ref wo, .ref hi, .ref te])), (te, .inr (4, [.ref sc, .ref wo, .ref hi, .ref fr, .ref va, .ref sa, .ref re, .int 0, .int (-1)]))] sz) [] t) (va_A [(h, .inr (7, [.ref sc, .ref wo, .ref hi, .ref te])), (te, .inr (4, [.ref sc, .ref wo, .ref hi, .ref fr, .ref va, .ref sa, .ref re, .int 0, .int (-1)]))] sz)) 0 0 (va_A [(h, .inr (7, [.ref sc, .ref wo, .ref hi, .ref te])), (te, .inr (4, [.ref sc, .ref wo, .ref hi, .ref fr, .ref va, .ref sa, .ref re, .int 0, .int (-1)]))] sz) := by
  refine Met.ofW (cc := prog_1_method_7_code) (maxL := 1) (ret := (some .boolean)) (by decide) rfl ?_
  intro p e s m args below meth c s₁ B hml hv
  obtain ⟨rfl, rfl, hP, hK, hD0, hT⟩ := hv
  have hx := B.exec
  have hb := B.bytes
  have hr := B.returns
  have hts0 := atoms_spec (ws := .code y_TM_stop prog_1_method_7_code 1 (some .boolean) :: AW) B.pre
  have hts : ∀ w ∈ AW, w.before [.ref h].toArray s = true := fun w h => hts0 w (List.mem_cons_of_mem _ h)
  have hown : s.vm.findClass "TaleMachine" = some m.cls := findClass_of_methodNamed B.named
  have hlocks := B.notSynchronized
  have hD := hD0.self (sz := s.heap.size)
  generalize hAe : va_A [(h, .inr (7, [.ref sc, .ref wo, .ref hi, .ref te])), (te, .inr (4, [.ref sc, .ref wo, .ref hi, .ref fr, .ref va, .ref sa, .ref re, .int 0, .int (-1)]))] s.heap.size = A at hD ⊢
  have hA : ∀ q : Nat, s.heap.size ≤ q → A q := fun q h => by rw [← hAe]; exact Or.inr h
  have hS : va_S A s.heap s.heap [] := va_S.rf
  have hl := lv_entry ([.ref h]) (n := 1) (Nat.le_of_ble_eq_true rfl)
  rw [lg_entry_eq]
  generalize (lg_sl ([.ref h]) ++ List.replicate (1 - (lg_sl ([.ref h])).length) Slot.unset).toArray = ls at hl ⊢
  have hl : lv_has ls 1 [(0, .ref h)] := hl
  refine lv_aload_n hx hb d_TM_stop_0 rfl (lv_at hl 0 rfl) ?_
  refine va_get (D := D) (ci := 7) (v := .ref te) (C := "TaleMachine") (T := F_TM) (N := 4) hx hb hts in_TM hown hK hP 0 rfl rfl 3 (by decide) (hts _ k_123) (fun _ h9 => h9) rfl d_TM_stop_1 ?_
  refine va_get (D := D) (ci := 4) (v := .int (-1)) (C := "TaleMachine$Teller") (T := F_Teller) (N := 9) hx hb hts in_Teller hown hK hP 1 rfl rfl 8 (by decide) (hts _ k_159) (fun _ h9 => h9) rfl d_TM_stop_4 ?_
  refine lv_if_eq hx hb d_TM_stop_7 (tgt := 12) (by decide) (fun hz => absurd hz (by decide)) (fun _ => ?_)
  refine lv_iconst (v := 0) hx hb d_TM_stop_10 (by decide) ?_
  exact end_z hx hb hr hlocks hS (u := ()) (r := 0) (at_end (hP.sub (ws' := []) [] rfl) (hD.sub (ws' := []) [] (by decide) rfl)) (rfl) (by decide) (Nat.le_of_ble_eq_true rfl) (Nat.le_of_ble_eq_true rfl) d_TM_stop_11

set_option maxHeartbeats 4000000 in
set_option maxRecDepth 100000 in
theorem c_TM_run (l : Launch) (D : va_G) (cI cZ cJ : ClassId) (h sc by_ wo st fl fn li rc kd it pa hi pt sv iz te fr va sa re vk vi sk si rk ri : Nat) (fu : Int32) (sz : Nat)  : Met l y_TM_run (.code y_TM_run prog_1_method_6_code 4 (some .int) :: AW) ({ frames := 1, cells := 0, slots := 0, locals := 17 }) (va_Pc [.ref h, .int fu] (pre_ D [(h, .inr (7, [.ref sc, .ref wo, .ref hi, .ref te])), (te, .inr (4, [.ref sc, .ref wo, .ref hi, .ref fr, .ref va, .ref sa, .ref re, .int 0, .int (-1)]))] [(cI, .int), (cZ, .boolean), (cJ, .long)] sz)) (va_Qi (fun (r : Int32) (u : Unit) => r = -1) (fun _ t => post_ D (va_A [(h, .inr (7, [.ref sc, .ref wo, .ref hi, .ref te])), (te, .inr (4, [.ref sc, .ref wo, .ref hi, .ref fr, .ref va, .ref sa, .ref re, .int 0, .int (-1)]))] sz) [] t) (va_A [(h, .inr (7, [.ref sc, .ref wo, .ref hi, .ref te])), (te, .inr (4, [.ref sc, .ref wo, .ref hi, .ref fr, .ref va, .ref sa, .ref re, .int 0, .int (-1)]))] sz)) 0 0 (va_A [(h, .inr (7, [.ref sc, .ref wo, .ref hi, .ref te])), (te, .inr (4, [.ref sc, .ref wo, .ref hi, .ref fr, .ref va, .ref sa, .ref re, .int 0, .int (-1)]))] sz) := by
  refine Met.ofW (cc := prog_1_method_6_code) (maxL := 4) (ret := (some .int)) (by decide) rfl ?_
  intro p e s m args below meth c s₁ B hml hv
  obtain ⟨rfl, rfl, hP, hK, hD0, hT⟩ := hv
  have hx := B.exec
  have hb := B.bytes
  have hr := B.returns
  have hts0 := atoms_spec (ws := .code y_TM_run prog_1_method_6_code 4 (some .int) :: AW) B.pre
  have hts : ∀ w ∈ AW, w.before [.ref h, .int fu].toArray s = true := fun w h => hts0 w (List.mem_cons_of_mem _ h)
  have hown : s.vm.findClass "TaleMachine" = some m.cls := findClass_of_methodNamed B.named
  have hlocks := B.notSynchronized
  have hD := hD0.self (sz := s.heap.size)
  generalize hAe : va_A [(h, .inr (7, [.ref sc, .ref wo, .ref hi, .ref te])), (te, .inr (4, [.ref sc, .ref wo, .ref hi, .ref fr, .ref va, .ref sa, .ref re, .int 0, .int (-1)]))] s.heap.size = A at hD ⊢
  have hA : ∀ q : Nat, s.heap.size ≤ q → A q := fun q h => by rw [← hAe]; exact Or.inr h
  have hS : va_S A s.heap s.heap [] := va_S.rf
  have hl := lv_entry ([.ref h, .int fu]) (n := 4) (Nat.le_of_ble_eq_true rfl)
  rw [lg_entry_eq]
  generalize (lg_sl ([.ref h, .int fu]) ++ List.replicate (4 - (lg_sl ([.ref h, .int fu])).length) Slot.unset).toArray = ls at hl ⊢
  have hl : lv_has ls 4 [(0, .ref h), (1, .int fu)] := hl
  refine lv_iload_n hx hb d_TM_run_0 rfl (lv_at hl 1 rfl) ?_
  refine lv_sipush (v := 3000) hx hb d_TM_run_1 (by decide) ?_
  refine va_mmin hx hb (hml.trans hl.1.symm) hown (hts _ k_160) (hts _ k_161) (hts _ k_162) (hts _ k_163) (Nat.le_of_ble_eq_true rfl) (Nat.le_of_ble_eq_true rfl) (Nat.le_of_ble_eq_true rfl) (Nat.le_of_ble_eq_true rfl) d_TM_run_4 ?_
  refine lv_topi (fun z1 hz1 => ?_)
  refine lv_istore_n (lv' := [(2, .int z1), (0, .ref h), (1, .int fu)]) hx hb d_TM_run_7 rfl hl (by decide) rfl (fun ls hl => ?_)
  refine lv_iconst (v := 0) hx hb d_TM_run_8 (by decide) ?_
  refine lv_istore_n (lv' := [(3, .int 0), (2, .int z1), (0, .ref h), (1, .int fu)]) hx hb d_TM_run_9 rfl hl (by decide) rfl (fun ls hl => ?_)
  refine lv_iload_n hx hb d_TM_run_10 rfl (lv_at hl 0 rfl) ?_
  refine lv_iload_n hx hb d_TM_run_11 rfl (lv_at hl 1 rfl) ?_
  refine lv_icmp_ge hx hb d_TM_run_12 (tgt := 49) (by decide) (fun hc2 => ?_) (fun hc2 => ?_)
  · refine lv_aload_n hx hb d_TM_run_49 rfl (lv_at hl 2 rfl) ?_
    refine va_get (D := D) (ci := 7) (v := .ref te) (C := "TaleMachine") (T := F_TM) (N := 4) hx hb hts in_TM hown hK hP 0 rfl rfl 3 (by decide) (hts _ k_123) (fun _ h9 => h9) rfl d_TM_run_50 ?_
    refine va_get (D := D) (ci := 4) (v := .int (-1)) (C := "TaleMachine$Teller") (T := F_Teller) (N := 9) hx hb hts in_Teller hown hK hP 1 rfl rfl 8 (by decide) (hts _ k_159) (fun _ h9 => h9) rfl d_TM_run_53 ?_
    exact end_i hx hb hr hlocks hS (u := ()) (r := (-1)) (at_end (hP.sub (ws' := []) [] rfl) (hD.sub (ws' := []) [] (by decide) rfl)) (rfl) (Nat.le_of_ble_eq_true rfl) (Nat.le_of_ble_eq_true rfl) d_TM_run_56
  · refine lv_aload_n hx hb d_TM_run_15 rfl (lv_at hl 2 rfl) ?_
    refine va_get (D := D) (ci := 7) (v := .ref te) (C := "TaleMachine") (T := F_TM) (N := 4) hx hb hts in_TM hown hK hP 0 rfl rfl 3 (by decide) (hts _ k_123) (fun _ h9 => h9) rfl d_TM_run_16 ?_
    refine va_get (D := D) (ci := 4) (v := .int (-1)) (C := "TaleMachine$Teller") (T := F_Teller) (N := 9) hx hb hts in_Teller hown hK hP 1 rfl rfl 8 (by decide) (hts _ k_159) (fun _ h9 => h9) rfl d_TM_run_19 ?_
    refine lv_if_ne hx hb d_TM_run_22 (tgt := 49) (by decide) (fun _ => ?_) (fun hz => absurd hz (by decide))
    refine lv_aload_n hx hb d_TM_run_49 rfl (lv_at hl 2 rfl) ?_
    refine va_get (D := D) (ci := 7) (v := .ref te) (C := "TaleMachine") (T := F_TM) (N := 4) hx hb hts in_TM hown hK hP 0 rfl rfl 3 (by decide) (hts _ k_123) (fun _ h9 => h9) rfl d_TM_run_50 ?_
    refine va_get (D := D) (ci := 4) (v := .int (-1)) (C := "TaleMachine$Teller") (T := F_Teller) (N := 9) hx hb hts in_Teller hown hK hP 1 rfl rfl 8 (by decide) (hts _ k_159) (fun _ h9 => h9) rfl d_TM_run_53 ?_
    exact end_i hx hb hr hlocks hS (u := ()) (r := (-1)) (at_end (hP.sub (ws' := []) [] rfl) (hD.sub (ws' := []) [] (by decide) rfl)) (rfl) (Nat.le_of_ble_eq_true rfl) (Nat.le_of_ble_eq_true rfl) d_TM_run_56

set_option maxHeartbeats 4000000 in
set_option maxRecDepth 100000 in
theorem c_History_dropSaved (l : Launch) (D : va_G) (cI cZ cJ : ClassId) (h pt sv iz : Nat) (sz : Nat)  : Met l y_History_dropSaved (.code y_History_dropSaved prog_3_method_8_code 2 none :: AW) ({ frames := 0, cells := 0, slots := 0, locals := 0 }) (va_Pc [.ref h] (pre_ D [(h, .inr (1, [.ref pt, .ref sv, .ref iz, .int 0])), (iz, .inl (cZ, 2, .inl (fun _ => 0)))] [(cI, .int), (cZ, .boolean), (cJ, .long)] sz)) (va_Qv (fun (u : Unit) => True) (fun _ t => post_ D (va_A [(h, .inr (1, [.ref pt, .ref sv, .ref iz, .int 0])), (iz, .inl (cZ, 2, .inl (fun _ => 0)))] sz) [] t) (va_A [(h, .inr (1, [.ref pt, .ref sv, .ref iz, .int 0])), (iz, .inl (cZ, 2, .inl (fun _ => 0)))] sz)) 0 0 (va_A [(h, .inr (1, [.ref pt, .ref sv, .ref iz, .int 0])), (iz, .inl (cZ, 2, .inl (fun _ => 0)))] sz) := by
  refine Met.ofW (cc := prog_3_method_8_code) (maxL := 2) (ret := none) (by decide) rfl ?_
  intro p e s m args below meth c s₁ B hml hv
  obtain ⟨rfl, rfl, hP, hK, hD0, hT⟩ := hv
  have hx := B.exec
  have hb := B.bytes
  have hr := B.returns
  have hts0 := atoms_spec (ws := .code y_History_dropSaved prog_3_method_8_code 2 none :: AW) B.pre
  have hts : ∀ w ∈ AW, w.before [.ref h].toArray s = true := fun w h => hts0 w (List.mem_cons_of_mem _ h)
  have hown : s.vm.findClass "TaleMachine$History" = some m.cls := findClass_of_methodNamed B.named
  have hlocks := B.notSynchronized
  have hD := hD0.self (sz := s.heap.size)
  generalize hAe : va_A [(h, .inr (1, [.ref pt, .ref sv, .ref iz, .int 0])), (iz, .inl (cZ, 2, .inl (fun _ => 0)))] s.heap.size = A at hD ⊢
  have hA : ∀ q : Nat, s.heap.size ≤ q → A q := fun q h => by rw [← hAe]; exact Or.inr h
  have hS : va_S A s.heap s.heap [] := va_S.rf
  have hl := lv_entry ([.ref h]) (n := 2) (Nat.le_of_ble_eq_true rfl)
  rw [lg_entry_eq]
  generalize (lg_sl ([.ref h]) ++ List.replicate (2 - (lg_sl ([.ref h])).length) Slot.unset).toArray = ls at hl ⊢
  have hl : lv_has ls 2 [(0, .ref h)] := hl
  refine lv_iconst (v := 0) hx hb d_History_dropSaved_0 (by decide) ?_
  refine lv_istore_n (lv' := [(1, .int 0), (0, .ref h)]) hx hb d_History_dropSaved_1 rfl hl (by decide) rfl (fun ls hl => ?_)
  refine lv_iload_n hx hb d_History_dropSaved_2 rfl (lv_at hl 0 rfl) ?_
  refine lv_iconst (v := 2) hx hb d_History_dropSaved_3 (by decide) ?_
  refine lv_icmp_ge hx hb d_History_dropSaved_4 (tgt := 20) (by decide) (fun hz => absurd hz (by decide)) (fun _ => ?_)
  refine lv_aload_n hx hb d_History_dropSaved_7 rfl (lv_at hl 1 rfl) ?_
  refine va_get (D := D) (ci := 1) (v := .ref iz) (C := "TaleMachine$History") (T := F_History) (N := 4) hx hb hts in_History hown hK hP 0 rfl rfl 2 (by decide) (hts _ k_75) (fun _ h9 => h9) rfl d_History_dropSaved_8 ?_
  refine lv_iload_n hx hb d_History_dropSaved_11 rfl (lv_at hl 0 rfl) ?_
  refine lv_iconst (v := 0) hx hb d_History_dropSaved_12 (by decide) ?_
  refine va_zast hx hb hK hP hD hS 1 1 rfl rfl (i := 0) (x := 0) (in_c (by decide)) d_History_dropSaved_13 (fun H locs hP hD hS => ?_)
  have hP : va_P D cL [(h, .inr (1, [.ref pt, .ref sv, .ref iz, .int 0])), (iz, .inl (cZ, 2, .inl (upd (fun _ => 0) (0 : Int32).toNatClampNeg (vp_nar .boolean 0))))] H := hP
  have hD : va_D A [(h, .inr (1, [.ref pt, .ref sv, .ref iz, .int 0])), (iz, .inl (cZ, 2, .inl (upd (fun _ => 0) (0 : Int32).toNatClampNeg (vp_nar .boolean 0))))] := hD
  generalize hff1 : upd (fun _ => 0) (0 : Int32).toNatClampNeg (vp_nar .boolean 0) = f1 at hP hD
  refine lv_iinc (v := 1) (lv' := [(1, .int 1), (0, .ref h)]) hx hb d_History_dropSaved_14 hl (k := 0) rfl (by decide) (by decide) rfl (fun ls hl => ?_)
  refine lv_goto hx hb d_History_dropSaved_17 (tgt := 2) (by decide) ?_
  refine lv_iload_n hx hb d_History_dropSaved_2 rfl (lv_at hl 0 rfl) ?_
  refine lv_iconst (v := 2) hx hb d_History_dropSaved_3 (by decide) ?_
  refine lv_icmp_ge hx hb d_History_dropSaved_4 (tgt := 20) (by decide) (fun hz => absurd hz (by decide)) (fun _ => ?_)
  refine lv_aload_n hx hb d_History_dropSaved_7 rfl (lv_at hl 1 rfl) ?_
  refine va_get (D := D) (ci := 1) (v := .ref iz) (C := "TaleMachine$History") (T := F_History) (N := 4) hx hb hts in_History hown hK hP 0 rfl rfl 2 (by decide) (hts _ k_75) (fun _ h9 => h9) rfl d_History_dropSaved_8 ?_
  refine lv_iload_n hx hb d_History_dropSaved_11 rfl (lv_at hl 0 rfl) ?_
  refine lv_iconst (v := 0) hx hb d_History_dropSaved_12 (by decide) ?_
  refine va_zast hx hb hK hP hD hS 1 1 rfl rfl (i := 1) (x := 0) (in_c (by decide)) d_History_dropSaved_13 (fun H locs hP hD hS => ?_)
  have hP : va_P D cL [(h, .inr (1, [.ref pt, .ref sv, .ref iz, .int 0])), (iz, .inl (cZ, 2, .inl (upd f1 (1 : Int32).toNatClampNeg (vp_nar .boolean 0))))] H := hP
  have hD : va_D A [(h, .inr (1, [.ref pt, .ref sv, .ref iz, .int 0])), (iz, .inl (cZ, 2, .inl (upd f1 (1 : Int32).toNatClampNeg (vp_nar .boolean 0))))] := hD
  generalize hff2 : upd f1 (1 : Int32).toNatClampNeg (vp_nar .boolean 0) = f2 at hP hD
  refine lv_iinc (v := 2) (lv' := [(1, .int 2), (0, .ref h)]) hx hb d_History_dropSaved_14 hl (k := 0) rfl (by decide) (by decide) rfl (fun ls hl => ?_)
  refine lv_goto hx hb d_History_dropSaved_17 (tgt := 2) (by decide) ?_
  refine lv_iload_n hx hb d_History_dropSaved_2 rfl (lv_at hl 0 rfl) ?_
  refine lv_iconst (v := 2) hx hb d_History_dropSaved_3 (by decide) ?_
  refine lv_icmp_ge hx hb d_History_dropSaved_4 (tgt := 20) (by decide) (fun _ => ?_) (fun hz => absurd (by decide) hz)
  exact end_v hx hb hr hlocks hS (u := ()) (at_end (hP.sub (ws' := []) [] rfl) (hD.sub (ws' := []) [] (by decide) rfl)) (trivial) (Nat.le_of_ble_eq_true rfl) (Nat.le_of_ble_eq_true rfl) d_History_dropSaved_20

set_option maxHeartbeats 4000000 in
set_option maxRecDepth 100000 in
theorem c_World_fix (l : Launch) (D : va_G) (cI cZ cJ : ClassId) (h st fl fn li rc kd it pa : Nat) (a1 a2 a3 : Int32) (sz : Nat)  : Met l y_World_fix (.code y_World_fix prog_8_method_8_code 8 (some .int) :: AW) ({ frames := 0, cells := 0, slots := 0, locals := 0 }) (va_Pc [.ref h, .int 0, .int a1, .int a2, .int a3] (pre_ D [(h, .inr (6, [.ref st, .int 0, .ref fl, .ref fn, .ref li, .int 0, .ref rc, .int 0, .int 0])), (fl, .inl (cI, 256, .inl (fun _ => 0))), (fn, .inl (cI, 16, .inl (fun _ => 0)))] [(cI, .int), (cZ, .boolean), (cJ, .long)] sz)) (va_Qi (fun (r : Int32) (u : Unit) => r = 0) (fun _ t => post_ D (va_A [(h, .inr (6, [.ref st, .int 0, .ref fl, .ref fn, .ref li, .int 0, .ref rc, .int 0, .int 0])), (fl, .inl (cI, 256, .inl (fun _ => 0))), (fn, .inl (cI, 16, .inl (fun _ => 0)))] sz) [] t) (va_A [(h, .inr (6, [.ref st, .int 0, .ref fl, .ref fn, .ref li, .int 0, .ref rc, .int 0, .int 0])), (fl, .inl (cI, 256, .inl (fun _ => 0))), (fn, .inl (cI, 16, .inl (fun _ => 0)))] sz)) 0 0 (va_A [(h, .inr (6, [.ref st, .int 0, .ref fl, .ref fn, .ref li, .int 0, .ref rc, .int 0, .int 0])), (fl, .inl (cI, 256, .inl (fun _ => 0))), (fn, .inl (cI, 16, .inl (fun _ => 0)))] sz) := by
  refine Met.ofW (cc := prog_8_method_8_code) (maxL := 8) (ret := (some .int)) (by decide) rfl ?_
  intro p e s m args below meth c s₁ B hml hv
  obtain ⟨rfl, rfl, hP, hK, hD0, hT⟩ := hv
  have hx := B.exec
  have hb := B.bytes
  have hr := B.returns
  have hts0 := atoms_spec (ws := .code y_World_fix prog_8_method_8_code 8 (some .int) :: AW) B.pre
  have hts : ∀ w ∈ AW, w.before [.ref h, .int 0, .int a1, .int a2, .int a3].toArray s = true := fun w h => hts0 w (List.mem_cons_of_mem _ h)
  have hown : s.vm.findClass "TaleMachine$World" = some m.cls := findClass_of_methodNamed B.named
  have hlocks := B.notSynchronized
  have hD := hD0.self (sz := s.heap.size)
  generalize hAe : va_A [(h, .inr (6, [.ref st, .int 0, .ref fl, .ref fn, .ref li, .int 0, .ref rc, .int 0, .int 0])), (fl, .inl (cI, 256, .inl (fun _ => 0))), (fn, .inl (cI, 16, .inl (fun _ => 0)))] s.heap.size = A at hD ⊢
  have hA : ∀ q : Nat, s.heap.size ≤ q → A q := fun q h => by rw [← hAe]; exact Or.inr h
  have hS : va_S A s.heap s.heap [] := va_S.rf
  have hl := lv_entry ([.ref h, .int 0, .int a1, .int a2, .int a3]) (n := 8) (Nat.le_of_ble_eq_true rfl)
  rw [lg_entry_eq]
  generalize (lg_sl ([.ref h, .int 0, .int a1, .int a2, .int a3]) ++ List.replicate (8 - (lg_sl ([.ref h, .int 0, .int a1, .int a2, .int a3])).length) Slot.unset).toArray = ls at hl ⊢
  have hl : lv_has ls 8 [(0, .ref h), (1, .int 0), (2, .int a1), (3, .int a2), (4, .int a3)] := hl
  refine lv_aload_n hx hb d_World_fix_0 rfl (lv_at hl 0 rfl) ?_
  refine lv_iconst (v := 0) hx hb d_World_fix_1 (by decide) ?_
  refine va_put (D := D) (ci := 6) (v := .int 0) (ty := .int) (C := "TaleMachine$World") (T := F_World) (N := 9) hx hb hts in_World t_World t_World_ok n_World hown hK hP hD hS 0 rfl rfl 5 (by decide) (hts _ k_164) (fun _ h9 => h9) rfl (by decide +kernel) rfl rfl (Nat.le_of_ble_eq_true rfl) d_World_fix_2 (fun H locs hP hD hS => ?_)
  have hP : va_P D cL [(h, .inr (6, [.ref st, .int 0, .ref fl, .ref fn, .ref li, .int 0, .ref rc, .int 0, .int 0])), (fl, .inl (cI, 256, .inl (fun _ => 0))), (fn, .inl (cI, 16, .inl (fun _ => 0)))] H := hP
  have hD : va_D A [(h, .inr (6, [.ref st, .int 0, .ref fl, .ref fn, .ref li, .int 0, .ref rc, .int 0, .int 0])), (fl, .inl (cI, 256, .inl (fun _ => 0))), (fn, .inl (cI, 16, .inl (fun _ => 0)))] := hD
  refine lv_iconst (v := 0) hx hb d_World_fix_5 (by decide) ?_
  refine lv_istore (lv' := [(5, .int 0), (0, .ref h), (1, .int 0), (2, .int a1), (3, .int a2), (4, .int a3)]) hx hb d_World_fix_6 hl (by decide) rfl (fun ls hl => ?_)
  refine lv_iload_n hx hb d_World_fix_8 rfl (lv_at hl 2 rfl) ?_
  refine lv_iconst (v := 1) hx hb d_World_fix_9 (by decide) ?_
  refine lv_isub hx hb d_World_fix_10 ?_
  refine lv_topi (fun z1 hz1 => ?_)
  obtain rfl : z1 = (-1) := hz1.trans (by decide)
  refine lv_istore (lv' := [(6, .int (-1)), (5, .int 0), (0, .ref h), (1, .int 0), (2, .int a1), (3, .int a2), (4, .int a3)]) hx hb d_World_fix_11 hl (by decide) rfl (fun ls hl => ?_)
  refine lv_iload hx hb d_World_fix_13 (lv_at hl 0 rfl) ?_
  refine lv_if_lt hx hb d_World_fix_15 (tgt := 53) (by decide) (fun _ => ?_) (fun hz => absurd (by decide) hz)
  refine lv_aload_n hx hb d_World_fix_53 rfl (lv_at hl 2 rfl) ?_
  refine va_get (D := D) (ci := 6) (v := .int 0) (C := "TaleMachine$World") (T := F_World) (N := 9) hx hb hts in_World hown hK hP 0 rfl rfl 1 (by decide) (hts _ k_129) (fun _ h9 => h9) rfl d_World_fix_54 ?_
  refine lv_bipush (v := 16) hx hb d_World_fix_57 (by decide) ?_
  refine lv_imul hx hb d_World_fix_59 ?_
  refine lv_topi (fun z2 hz2 => ?_)
  obtain rfl : z2 = 0 := hz2.trans (by decide)
  refine lv_istore (lv' := [(6, .int 0), (5, .int 0), (0, .ref h), (1, .int 0), (2, .int a1), (3, .int a2), (4, .int a3)]) hx hb d_World_fix_60 hl (by decide) rfl (fun ls hl => ?_)
  refine lv_aload_n hx hb d_World_fix_62 rfl (lv_at hl 2 rfl) ?_
  refine va_get (D := D) (ci := 6) (v := .ref fl) (C := "TaleMachine$World") (T := F_World) (N := 9) hx hb hts in_World hown hK hP 0 rfl rfl 2 (by decide) (hts _ k_66) (fun _ h9 => h9) rfl d_World_fix_63 ?_
  refine lv_iload hx hb d_World_fix_66 (lv_at hl 0 rfl) ?_
  refine lv_aload_n hx hb d_World_fix_68 rfl (lv_at hl 2 rfl) ?_
  refine va_get (D := D) (ci := 6) (v := .int 0) (C := "TaleMachine$World") (T := F_World) (N := 9) hx hb hts in_World hown hK hP 0 rfl rfl 1 (by decide) (hts _ k_129) (fun _ h9 => h9) rfl d_World_fix_69 ?_
  refine va_iast hx hb hK hP hD hS 1 0 rfl rfl (i := 0) (x := 0) (in_c (by decide)) d_World_fix_72 (fun H locs hP hD hS => ?_)
  have hP : va_P D cL [(h, .inr (6, [.ref st, .int 0, .ref fl, .ref fn, .ref li, .int 0, .ref rc, .int 0, .int 0])), (fl, .inl (cI, 256, .inl (upd (fun _ => 0) (0 : Int32).toNatClampNeg 0))), (fn, .inl (cI, 16, .inl (fun _ => 0)))] H := hP
  have hD : va_D A [(h, .inr (6, [.ref st, .int 0, .ref fl, .ref fn, .ref li, .int 0, .ref rc, .int 0, .int 0])), (fl, .inl (cI, 256, .inl (upd (fun _ => 0) (0 : Int32).toNatClampNeg 0))), (fn, .inl (cI, 16, .inl (fun _ => 0)))] := hD
  generalize hff3 : upd (fun _ => 0) (0 : Int32).toNatClampNeg 0 = f3 at hP hD
  refine lv_iconst (v := 0) hx hb d_World_fix_73 (by decide) ?_
  refine lv_istore (lv' := [(7, .int 0), (6, .int 0), (5, .int 0), (0, .ref h), (1, .int 0), (2, .int a1), (3, .int a2), (4, .int a3)]) hx hb d_World_fix_74 hl (by decide) rfl (fun ls hl => ?_)
  refine lv_iload hx hb d_World_fix_76 (lv_at hl 0 rfl) ?_
  refine lv_aload_n hx hb d_World_fix_78 rfl (lv_at hl 3 rfl) ?_
  refine va_get (D := D) (ci := 6) (v := .int 0) (C := "TaleMachine$World") (T := F_World) (N := 9) hx hb hts in_World hown hK hP 0 rfl rfl 5 (by decide) (hts _ k_164) (fun _ h9 => h9) rfl d_World_fix_79 ?_
  refine lv_icmp_ge hx hb d_World_fix_82 (tgt := 117) (by decide) (fun _ => ?_) (fun hz => absurd (by decide) hz)
  refine lv_aload_n hx hb d_World_fix_117 rfl (lv_at hl 3 rfl) ?_
  refine va_get (D := D) (ci := 6) (v := .ref fn) (C := "TaleMachine$World") (T := F_World) (N := 9) hx hb hts in_World hown hK hP 0 rfl rfl 3 (by decide) (hts _ k_67) (fun _ h9 => h9) rfl d_World_fix_118 ?_
  refine lv_aload_n hx hb d_World_fix_121 rfl (lv_at hl 3 rfl) ?_
  refine va_get (D := D) (ci := 6) (v := .int 0) (C := "TaleMachine$World") (T := F_World) (N := 9) hx hb hts in_World hown hK hP 0 rfl rfl 1 (by decide) (hts _ k_129) (fun _ h9 => h9) rfl d_World_fix_122 ?_
  refine lv_aload_n hx hb d_World_fix_125 rfl (lv_at hl 3 rfl) ?_
  refine va_get (D := D) (ci := 6) (v := .int 0) (C := "TaleMachine$World") (T := F_World) (N := 9) hx hb hts in_World hown hK hP 0 rfl rfl 5 (by decide) (hts _ k_164) (fun _ h9 => h9) rfl d_World_fix_126 ?_
  refine lv_iconst (v := 1) hx hb d_World_fix_129 (by decide) ?_
  refine lv_iadd hx hb d_World_fix_130 ?_
  refine lv_topi (fun z4 hz4 => ?_)
  obtain rfl : z4 = 1 := hz4.trans (by decide)
  refine va_iast hx hb hK hP hD hS 2 0 rfl rfl (i := 0) (x := 1) (in_c (by decide)) d_World_fix_131 (fun H locs hP hD hS => ?_)
  have hP : va_P D cL [(h, .inr (6, [.ref st, .int 0, .ref fl, .ref fn, .ref li, .int 0, .ref rc, .int 0, .int 0])), (fl, .inl (cI, 256, .inl f3)), (fn, .inl (cI, 16, .inl (upd (fun _ => 0) (0 : Int32).toNatClampNeg 1)))] H := hP
  have hD : va_D A [(h, .inr (6, [.ref st, .int 0, .ref fl, .ref fn, .ref li, .int 0, .ref rc, .int 0, .int 0])), (fl, .inl (cI, 256, .inl f3)), (fn, .inl (cI, 16, .inl (upd (fun _ => 0) (0 : Int32).toNatClampNeg 1)))] := hD
  generalize hff5 : upd (fun _ => 0) (0 : Int32).toNatClampNeg 1 = f5 at hP hD
  refine lv_aload_n hx hb d_World_fix_132 rfl (lv_at hl 3 rfl) ?_
  refine lv_dup hx hb d_World_fix_133 rfl ?_
  refine va_get (D := D) (ci := 6) (v := .int 0) (C := "TaleMachine$World") (T := F_World) (N := 9) hx hb hts in_World hown hK hP 0 rfl rfl 1 (by decide) (hts _ k_129) (fun _ h9 => h9) rfl d_World_fix_134 ?_
  refine lv_iconst (v := 1) hx hb d_World_fix_137 (by decide) ?_
  refine lv_iadd hx hb d_World_fix_138 ?_
  refine lv_topi (fun z6 hz6 => ?_)
  obtain rfl : z6 = 1 := hz6.trans (by decide)
  refine va_put (D := D) (ci := 6) (v := .int 1) (ty := .int) (C := "TaleMachine$World") (T := F_World) (N := 9) hx hb hts in_World t_World t_World_ok n_World hown hK hP hD hS 0 rfl rfl 1 (by decide) (hts _ k_129) (fun _ h9 => h9) rfl (by decide +kernel) rfl rfl (Nat.le_of_ble_eq_true rfl) d_World_fix_139 (fun H locs hP hD hS => ?_)
  have hP : va_P D cL [(h, .inr (6, [.ref st, .int 1, .ref fl, .ref fn, .ref li, .int 0, .ref rc, .int 0, .int 0])), (fl, .inl (cI, 256, .inl f3)), (fn, .inl (cI, 16, .inl f5))] H := hP
  have hD : va_D A [(h, .inr (6, [.ref st, .int 1, .ref fl, .ref fn, .ref li, .int 0, .ref rc, .int 0, .int 0])), (fl, .inl (cI, 256, .inl f3)), (fn, .inl (cI, 16, .inl f5))] := hD
  refine lv_aload_n hx hb d_World_fix_142 rfl (lv_at hl 3 rfl) ?_
  refine va_get (D := D) (ci := 6) (v := .int 1) (C := "TaleMachine$World") (T := F_World) (N := 9) hx hb hts in_World hown hK hP 0 rfl rfl 1 (by decide) (hts _ k_129) (fun _ h9 => h9) rfl d_World_fix_143 ?_
  refine lv_iconst (v := 1) hx hb d_World_fix_146 (by decide) ?_
  refine lv_isub hx hb d_World_fix_147 ?_
  refine lv_topi (fun z7 hz7 => ?_)
  obtain rfl : z7 = 0 := hz7.trans (by decide)
  exact end_i hx hb hr hlocks hS (u := ()) (r := 0) (at_end (hP.sub (ws' := []) [] rfl) (hD.sub (ws' := []) [] (by decide) rfl)) (rfl) (Nat.le_of_ble_eq_true rfl) (Nat.le_of_ble_eq_true rfl) d_World_fix_148

set_option maxHeartbeats 4000000 in
set_option maxRecDepth 100000 in
theorem c_TM_object_1 (l : Launch) (D : va_G) (cI cZ cJ : ClassId) (h sc by_ wo st fl fn li rc kd it pa hi pt sv iz te fr va sa re vk vi sk si rk ri : Nat) (b c3 : Int32) (sz : Nat)  : Met l y_TM_object (.code y_TM_object prog_1_method_3_code 5 (some .int) :: AW) ({ frames := 1, cells := 0, slots := 0, locals := 27 }) (va_Pc [.ref h, .int (-1), .int b, .int c3] (pre_ D [(h, .inr (7, [.ref sc, .ref wo, .ref hi, .ref te])), (wo, .inr (6, [.ref st, .int 0, .ref fl, .ref fn, .ref li, .int 0, .ref rc, .int 0, .int 0])), (fl, .inl (cI, 256, .inl (fun _ => 0))), (fn, .inl (cI, 16, .inl (fun _ => 0))), (hi, .inr (1, [.ref pt, .ref sv, .ref iz, .int 0])), (iz, .inl (cZ, 2, .inl (fun _ => 0))), (te, .inr (4, [.ref sc, .ref wo, .ref hi, .ref fr, .ref va, .ref sa, .ref re, .int 0, .int (-1)]))] [(cI, .int), (cZ, .boolean), (cJ, .long)] sz)) (va_Qi (fun (r : Int32) (u : Unit) => r = 0) (fun _ t => post_ D (va_A [(h, .inr (7, [.ref sc, .ref wo, .ref hi, .ref te])), (wo, .inr (6, [.ref st, .int 0, .ref fl, .ref fn, .ref li, .int 0, .ref rc, .int 0, .int 0])), (fl, .inl (cI, 256, .inl (fun _ => 0))), (fn, .inl (cI, 16, .inl (fun _ => 0))), (hi, .inr (1, [.ref pt, .ref sv, .ref iz, .int 0])), (iz, .inl (cZ, 2, .inl (fun _ => 0))), (te, .inr (4, [.ref sc, .ref wo, .ref hi, .ref fr, .ref va, .ref sa, .ref re, .int 0, .int (-1)]))] sz) [] t) (va_A [(h, .inr (7, [.ref sc, .ref wo, .ref hi, .ref te])), (wo, .inr (6, [.ref st, .int 0, .ref fl, .ref fn, .ref li, .int 0, .ref rc, .int 0, .int 0])), (fl, .inl (cI, 256, .inl (fun _ => 0))), (fn, .inl (cI, 16, .inl (fun _ => 0))), (hi, .inr (1, [.ref pt, .ref sv, .ref iz, .int 0])), (iz, .inl (cZ, 2, .inl (fun _ => 0))), (te, .inr (4, [.ref sc, .ref wo, .ref hi, .ref fr, .ref va, .ref sa, .ref re, .int 0, .int (-1)]))] sz)) 0 0 (va_A [(h, .inr (7, [.ref sc, .ref wo, .ref hi, .ref te])), (wo, .inr (6, [.ref st, .int 0, .ref fl, .ref fn, .ref li, .int 0, .ref rc, .int 0, .int 0])), (fl, .inl (cI, 256, .inl (fun _ => 0))), (fn, .inl (cI, 16, .inl (fun _ => 0))), (hi, .inr (1, [.ref pt, .ref sv, .ref iz, .int 0])), (iz, .inl (cZ, 2, .inl (fun _ => 0))), (te, .inr (4, [.ref sc, .ref wo, .ref hi, .ref fr, .ref va, .ref sa, .ref re, .int 0, .int (-1)]))] sz) := by
  refine Met.ofW (cc := prog_1_method_3_code) (maxL := 5) (ret := (some .int)) (by decide) rfl ?_
  intro p e s m args below meth c s₁ B hml hv
  obtain ⟨rfl, rfl, hP, hK, hD0, hT⟩ := hv
  have hx := B.exec
  have hb := B.bytes
  have hr := B.returns
  have hts0 := atoms_spec (ws := .code y_TM_object prog_1_method_3_code 5 (some .int) :: AW) B.pre
  have hts : ∀ w ∈ AW, w.before [.ref h, .int (-1), .int b, .int c3].toArray s = true := fun w h => hts0 w (List.mem_cons_of_mem _ h)
  have hown : s.vm.findClass "TaleMachine" = some m.cls := findClass_of_methodNamed B.named
  have hlocks := B.notSynchronized
  have hD := hD0.self (sz := s.heap.size)
  generalize hAe : va_A [(h, .inr (7, [.ref sc, .ref wo, .ref hi, .ref te])), (wo, .inr (6, [.ref st, .int 0, .ref fl, .ref fn, .ref li, .int 0, .ref rc, .int 0, .int 0])), (fl, .inl (cI, 256, .inl (fun _ => 0))), (fn, .inl (cI, 16, .inl (fun _ => 0))), (hi, .inr (1, [.ref pt, .ref sv, .ref iz, .int 0])), (iz, .inl (cZ, 2, .inl (fun _ => 0))), (te, .inr (4, [.ref sc, .ref wo, .ref hi, .ref fr, .ref va, .ref sa, .ref re, .int 0, .int (-1)]))] s.heap.size = A at hD ⊢
  have hA : ∀ q : Nat, s.heap.size ≤ q → A q := fun q h => by rw [← hAe]; exact Or.inr h
  have hS : va_S A s.heap s.heap [] := va_S.rf
  have hl := lv_entry ([.ref h, .int (-1), .int b, .int c3]) (n := 5) (Nat.le_of_ble_eq_true rfl)
  rw [lg_entry_eq]
  generalize (lg_sl ([.ref h, .int (-1), .int b, .int c3]) ++ List.replicate (5 - (lg_sl ([.ref h, .int (-1), .int b, .int c3])).length) Slot.unset).toArray = ls at hl ⊢
  have hl : lv_has ls 5 [(0, .ref h), (1, .int (-1)), (2, .int b), (3, .int c3)] := hl
  refine lv_iload_n hx hb d_TM_object_0 rfl (lv_at hl 1 rfl) ?_
  refine lv_iconst (v := (-1)) hx hb d_TM_object_1 (by decide) ?_
  refine lv_icmp_ne hx hb d_TM_object_2 (tgt := 9) (by decide) (fun hz => absurd (by decide) hz) (fun _ => ?_)
  refine lv_iconst (v := 0) hx hb d_TM_object_5 (by decide) ?_
  refine lv_goto hx hb d_TM_object_6 (tgt := 28) (by decide) ?_
  refine lv_istore (lv' := [(4, .int 0), (0, .ref h), (1, .int (-1)), (2, .int b), (3, .int c3)]) hx hb d_TM_object_28 hl (by decide) rfl (fun ls hl => ?_)
  refine lv_iload hx hb d_TM_object_30 (lv_at hl 0 rfl) ?_
  refine lv_if_le hx hb d_TM_object_32 (tgt := 46) (by decide) (fun _ => ?_) (fun hz => absurd (by decide) hz)
  refine lv_iload hx hb d_TM_object_46 (lv_at hl 0 rfl) ?_
  refine lv_iconst (v := 1) hx hb d_TM_object_48 (by decide) ?_
  refine lv_icmp_le hx hb d_TM_object_49 (tgt := 63) (by decide) (fun _ => ?_) (fun hz => absurd (by decide) hz)
  refine lv_iload hx hb d_TM_object_63 (lv_at hl 0 rfl) ?_
  refine lv_iconst (v := 2) hx hb d_TM_object_65 (by decide) ?_
  refine lv_icmp_le hx hb d_TM_object_66 (tgt := 90) (by decide) (fun _ => ?_) (fun hz => absurd (by decide) hz)
  refine lv_aload_n hx hb d_TM_object_90 rfl (lv_at hl 1 rfl) ?_
  refine va_get (D := D) (ci := 7) (v := .ref wo) (C := "TaleMachine") (T := F_TM) (N := 4) hx hb hts in_TM hown hK hP 0 rfl rfl 1 (by decide) (hts _ k_109) (fun _ h9 => h9) rfl d_TM_object_91 ?_
  refine va_get (D := D) (ci := 6) (v := .int 0) (C := "TaleMachine$World") (T := F_World) (N := 9) hx hb hts in_World hown hK hP 1 rfl rfl 1 (by decide) (hts _ k_165) (fun _ h9 => h9) rfl d_TM_object_94 ?_
  refine lv_bipush (v := 16) hx hb d_TM_object_97 (by decide) ?_
  refine lv_icmp_eq hx hb d_TM_object_99 (tgt := 112) (by decide) (fun hz => absurd hz (by decide)) (fun _ => ?_)
  refine lv_aload_n hx hb d_TM_object_102 rfl (lv_at hl 1 rfl) ?_
  refine va_get (D := D) (ci := 7) (v := .ref te) (C := "TaleMachine") (T := F_TM) (N := 4) hx hb hts in_TM hown hK hP 0 rfl rfl 3 (by decide) (hts _ k_123) (fun _ h9 => h9) rfl d_TM_object_103 ?_
  refine va_get (D := D) (ci := 4) (v := .int (-1)) (C := "TaleMachine$Teller") (T := F_Teller) (N := 9) hx hb hts in_Teller hown hK hP 6 rfl rfl 8 (by decide) (hts _ k_159) (fun _ h9 => h9) rfl d_TM_object_106 ?_
  refine lv_if_ne hx hb d_TM_object_109 (tgt := 122) (by decide) (fun _ => ?_) (fun hz => absurd hz (by decide))
  refine lv_aload_n hx hb d_TM_object_122 rfl (lv_at hl 1 rfl) ?_
  refine va_get (D := D) (ci := 7) (v := .ref hi) (C := "TaleMachine") (T := F_TM) (N := 4) hx hb hts in_TM hown hK hP 0 rfl rfl 2 (by decide) (hts _ k_116) (fun _ h9 => h9) rfl d_TM_object_123 ?_
  refine mv_v (va_runV (C := "TaleMachine$History") (As := []) (rest := []) ⟨hx, hb, hml, hown, hts⟩ (c_History_dropSaved l D cI cZ cJ hi pt sv iz _ ) (cwV 0 hts (gInV k_167 k_168 k_169 k_112 k_166) rfl rfl rfl (by decide +kernel) ⟨Nat.le_of_ble_eq_true rfl, Nat.le_of_ble_eq_true rfl⟩) (pre_V (va_recv hK hP (q := ("TaleMachine$History", F_History, 4)) rfl (q0 := 4) rfl) (hP.sub [4, 5] rfl) (hK.sub [0, 1, 2] rfl) (hD.sub [4, 5] (by decide) rfl) hT) rfl rfl hl.1 rfl (lv_room (Nat.le_of_ble_eq_true rfl)) d_TM_object_126 ⟨Nat.le_of_ble_eq_true rfl, Nat.le_of_ble_eq_true rfl⟩) hP hD hS hA [4, 5] [0, 1, 2, 3, 6] rfl rfl (by decide) (by decide) (wr := [(h, .inr (7, [.ref sc, .ref wo, .ref hi, .ref te])), (wo, .inr (6, [.ref st, .int 0, .ref fl, .ref fn, .ref li, .int 0, .ref rc, .int 0, .int 0])), (fl, .inl (cI, 256, .inl (fun _ => 0))), (fn, .inl (cI, 16, .inl (fun _ => 0))), (te, .inr (4, [.ref sc, .ref wo, .ref hi, .ref fr, .ref va, .ref sa, .ref re, .int 0, .int (-1)]))]) (wn := fun _ => []) (fun _ _ h9 => h9) (fun _ H locs hp2 hP hD hS => ?_)
  have hP : va_P D cL [(h, .inr (7, [.ref sc, .ref wo, .ref hi, .ref te])), (wo, .inr (6, [.ref st, .int 0, .ref fl, .ref fn, .ref li, .int 0, .ref rc, .int 0, .int 0])), (fl, .inl (cI, 256, .inl (fun _ => 0))), (fn, .inl (cI, 16, .inl (fun _ => 0))), (te, .inr (4, [.ref sc, .ref wo, .ref hi, .ref fr, .ref va, .ref sa, .ref re, .int 0, .int (-1)]))] H := hP
  have hD : va_D A [(h, .inr (7, [.ref sc, .ref wo, .ref hi, .ref te])), (wo, .inr (6, [.ref st, .int 0, .ref fl, .ref fn, .ref li, .int 0, .ref rc, .int 0, .int 0])), (fl, .inl (cI, 256, .inl (fun _ => 0))), (fn, .inl (cI, 16, .inl (fun _ => 0))), (te, .inr (4, [.ref sc, .ref wo, .ref hi, .ref fr, .ref va, .ref sa, .ref re, .int 0, .int (-1)]))] := hD
  refine lv_aload_n hx hb d_TM_object_129 rfl (lv_at hl 1 rfl) ?_
  refine va_get (D := D) (ci := 7) (v := .ref wo) (C := "TaleMachine") (T := F_TM) (N := 4) hx hb hts in_TM hown hK hP 0 rfl rfl 1 (by decide) (hts _ k_109) (fun _ h9 => h9) rfl d_TM_object_130 ?_
  refine lv_iload hx hb d_TM_object_133 (lv_at hl 0 rfl) ?_
  refine lv_iload_n hx hb d_TM_object_135 rfl (lv_at hl 2 rfl) ?_
  refine lv_iload_n hx hb d_TM_object_136 rfl (lv_at hl 3 rfl) ?_
  refine lv_iload_n hx hb d_TM_object_137 rfl (lv_at hl 4 rfl) ?_
  refine mv_i (va_runV (C := "TaleMachine$World") (As := [.int 0, .int (-1), .int b, .int c3]) (rest := []) ⟨hx, hb, hml, hown, hts⟩ (c_World_fix l D cI cZ cJ wo st fl fn li rc 0 0 0 (-1) b c3 _ ) (cwV 4 hts (gInV k_171 k_172 k_173 k_106 k_170) rfl rfl rfl (by decide +kernel) ⟨Nat.le_of_ble_eq_true rfl, Nat.le_of_ble_eq_true rfl⟩) (pre_V (va_recv hK hP (q := ("TaleMachine$World", F_World, 9)) rfl (q0 := 1) rfl) (hP.sub [1, 2, 3] rfl) (hK.sub [0, 1, 2] rfl) (hD.sub [1, 2, 3] (by decide) rfl) hT) rfl rfl hl.1 rfl (lv_room (Nat.le_of_ble_eq_true rfl)) d_TM_object_138 ⟨Nat.le_of_ble_eq_true rfl, Nat.le_of_ble_eq_true rfl⟩) hP hD hS hA [1, 2, 3] [0, 4] rfl rfl (by decide) (by decide) (wr := [(h, .inr (7, [.ref sc, .ref wo, .ref hi, .ref te])), (te, .inr (4, [.ref sc, .ref wo, .ref hi, .ref fr, .ref va, .ref sa, .ref re, .int 0, .int (-1)]))]) (wn := fun _ => []) (fun _ _ h9 => h9) (fun r3 _ H locs hp4 hP hD hS => ?_)
  have hP : va_P D cL [(h, .inr (7, [.ref sc, .ref wo, .ref hi, .ref te])), (te, .inr (4, [.ref sc, .ref wo, .ref hi, .ref fr, .ref va, .ref sa, .ref re, .int 0, .int (-1)]))] H := hP
  have hD : va_D A [(h, .inr (7, [.ref sc, .ref wo, .ref hi, .ref te])), (te, .inr (4, [.ref sc, .ref wo, .ref hi, .ref fr, .ref va, .ref sa, .ref re, .int 0, .int (-1)]))] := hD
  obtain rfl : r3 = 0 := hp4
  exact end_i hx hb hr hlocks hS (u := ()) (r := 0) (at_end (hP.sub (ws' := []) [] rfl) (hD.sub (ws' := []) [] (by decide) rfl)) (rfl) (Nat.le_of_ble_eq_true rfl) (Nat.le_of_ble_eq_true rfl) d_TM_object_141

set_option maxHeartbeats 4000000 in
set_option maxRecDepth 100000 in
theorem c_TM_show_0 (l : Launch) (D : va_G) (cI cZ cJ : ClassId) (h sc by_ wo st fl fn li rc kd it pa hi pt sv iz te fr va sa re vk vi sk si rk ri : Nat) (sz : Nat)  : Met l y_TM_show (.code y_TM_show prog_1_method_10_code 2 (some .int) :: AW) ({ frames := 0, cells := 0, slots := 0, locals := 0 }) (va_Pc [.ref h, .int 0] (pre_ D [(h, .inr (7, [.ref sc, .ref wo, .ref hi, .ref te])), (wo, .inr (6, [.ref st, .int 0, .ref fl, .ref fn, .ref li, .int 0, .ref rc, .int 0, .int 0])), (st, .inr (3, [.ref kd, .ref it, .ref pa])), (pa, .inl (cI, 16, .inl (fun _ => -1))), (hi, .inr (1, [.ref pt, .ref sv, .ref iz, .int 0])), (te, .inr (4, [.ref sc, .ref wo, .ref hi, .ref fr, .ref va, .ref sa, .ref re, .int 0, .int (-1)])), (sa, .inr (5, [.ref sk, .ref si, .int 0]))] [(cI, .int), (cZ, .boolean), (cJ, .long)] sz)) (va_Qi (fun (r : Int32) (u : Unit) => r = 0) (fun _ t => post_ D (va_A [(h, .inr (7, [.ref sc, .ref wo, .ref hi, .ref te])), (wo, .inr (6, [.ref st, .int 0, .ref fl, .ref fn, .ref li, .int 0, .ref rc, .int 0, .int 0])), (st, .inr (3, [.ref kd, .ref it, .ref pa])), (pa, .inl (cI, 16, .inl (fun _ => -1))), (hi, .inr (1, [.ref pt, .ref sv, .ref iz, .int 0])), (te, .inr (4, [.ref sc, .ref wo, .ref hi, .ref fr, .ref va, .ref sa, .ref re, .int 0, .int (-1)])), (sa, .inr (5, [.ref sk, .ref si, .int 0]))] sz) [] t) (va_A [(h, .inr (7, [.ref sc, .ref wo, .ref hi, .ref te])), (wo, .inr (6, [.ref st, .int 0, .ref fl, .ref fn, .ref li, .int 0, .ref rc, .int 0, .int 0])), (st, .inr (3, [.ref kd, .ref it, .ref pa])), (pa, .inl (cI, 16, .inl (fun _ => -1))), (hi, .inr (1, [.ref pt, .ref sv, .ref iz, .int 0])), (te, .inr (4, [.ref sc, .ref wo, .ref hi, .ref fr, .ref va, .ref sa, .ref re, .int 0, .int (-1)])), (sa, .inr (5, [.ref sk, .ref si, .int 0]))] sz)) 0 0 (va_A [(h, .inr (7, [.ref sc, .ref wo, .ref hi, .ref te])), (wo, .inr (6, [.ref st, .int 0, .ref fl, .ref fn, .ref li, .int 0, .ref rc, .int 0, .int 0])), (st, .inr (3, [.ref kd, .ref it, .ref pa])), (pa, .inl (cI, 16, .inl (fun _ => -1))), (hi, .inr (1, [.ref pt, .ref sv, .ref iz, .int 0])), (te, .inr (4, [.ref sc, .ref wo, .ref hi, .ref fr, .ref va, .ref sa, .ref re, .int 0, .int (-1)])), (sa, .inr (5, [.ref sk, .ref si, .int 0]))] sz) := by
  refine Met.ofW (cc := prog_1_method_10_code) (maxL := 2) (ret := (some .int)) (by decide) rfl ?_
  intro p e s m args below meth c s₁ B hml hv
  obtain ⟨rfl, rfl, hP, hK, hD0, hT⟩ := hv
  have hx := B.exec
  have hb := B.bytes
  have hr := B.returns
  have hts0 := atoms_spec (ws := .code y_TM_show prog_1_method_10_code 2 (some .int) :: AW) B.pre
  have hts : ∀ w ∈ AW, w.before [.ref h, .int 0].toArray s = true := fun w h => hts0 w (List.mem_cons_of_mem _ h)
  have hown : s.vm.findClass "TaleMachine" = some m.cls := findClass_of_methodNamed B.named
  have hlocks := B.notSynchronized
  have hD := hD0.self (sz := s.heap.size)
  generalize hAe : va_A [(h, .inr (7, [.ref sc, .ref wo, .ref hi, .ref te])), (wo, .inr (6, [.ref st, .int 0, .ref fl, .ref fn, .ref li, .int 0, .ref rc, .int 0, .int 0])), (st, .inr (3, [.ref kd, .ref it, .ref pa])), (pa, .inl (cI, 16, .inl (fun _ => -1))), (hi, .inr (1, [.ref pt, .ref sv, .ref iz, .int 0])), (te, .inr (4, [.ref sc, .ref wo, .ref hi, .ref fr, .ref va, .ref sa, .ref re, .int 0, .int (-1)])), (sa, .inr (5, [.ref sk, .ref si, .int 0]))] s.heap.size = A at hD ⊢
  have hA : ∀ q : Nat, s.heap.size ≤ q → A q := fun q h => by rw [← hAe]; exact Or.inr h
  have hS : va_S A s.heap s.heap [] := va_S.rf
  have hl := lv_entry ([.ref h, .int 0]) (n := 2) (Nat.le_of_ble_eq_true rfl)
  rw [lg_entry_eq]
  generalize (lg_sl ([.ref h, .int 0]) ++ List.replicate (2 - (lg_sl ([.ref h, .int 0])).length) Slot.unset).toArray = ls at hl ⊢
  have hl : lv_has ls 2 [(0, .ref h), (1, .int 0)] := hl
  refine lv_iload_n hx hb d_TM_show_0 rfl (lv_at hl 1 rfl) ?_
  refine lv_iconst (v := 1) hx hb d_TM_show_1 (by decide) ?_
  refine lv_icmp_eq hx hb d_TM_show_2 (tgt := 10) (by decide) (fun hz => absurd hz (by decide)) (fun _ => ?_)
  refine lv_iload_n hx hb d_TM_show_5 rfl (lv_at hl 1 rfl) ?_
  refine lv_iconst (v := 2) hx hb d_TM_show_6 (by decide) ?_
  refine lv_icmp_ne hx hb d_TM_show_7 (tgt := 30) (by decide) (fun _ => ?_) (fun hz => absurd hz (by decide))
  refine lv_iload_n hx hb d_TM_show_30 rfl (lv_at hl 1 rfl) ?_
  refine lv_tableIn hx hb d_TM_show_31 (x := 0) (off := 37) (tgt := 68) (by decide) (by decide) rfl (by decide) ?_
  refine lv_aload_n hx hb d_TM_show_68 rfl (lv_at hl 0 rfl) ?_
  refine va_get (D := D) (ci := 7) (v := .ref te) (C := "TaleMachine") (T := F_TM) (N := 4) hx hb hts in_TM hown hK hP 0 rfl rfl 3 (by decide) (hts _ k_123) (fun _ h9 => h9) rfl d_TM_show_69 ?_
  refine va_get (D := D) (ci := 4) (v := .int 0) (C := "TaleMachine$Teller") (T := F_Teller) (N := 9) hx hb hts in_Teller hown hK hP 5 rfl rfl 7 (by decide) (hts _ k_174) (fun _ h9 => h9) rfl d_TM_show_72 ?_
  exact end_i hx hb hr hlocks hS (u := ()) (r := 0) (at_end (hP.sub (ws' := []) [] rfl) (hD.sub (ws' := []) [] (by decide) rfl)) (rfl) (Nat.le_of_ble_eq_true rfl) (Nat.le_of_ble_eq_true rfl) d_TM_show_75

set_option maxHeartbeats 4000000 in
set_option maxRecDepth 100000 in
theorem c_TM_show_3 (l : Launch) (D : va_G) (cI cZ cJ : ClassId) (h sc by_ wo st fl fn li rc kd it pa hi pt sv iz te fr va sa re vk vi sk si rk ri : Nat) (sz : Nat)  : Met l y_TM_show (.code y_TM_show prog_1_method_10_code 2 (some .int) :: AW) ({ frames := 0, cells := 0, slots := 0, locals := 0 }) (va_Pc [.ref h, .int 3] (pre_ D [(h, .inr (7, [.ref sc, .ref wo, .ref hi, .ref te])), (wo, .inr (6, [.ref st, .int 0, .ref fl, .ref fn, .ref li, .int 0, .ref rc, .int 0, .int 0])), (st, .inr (3, [.ref kd, .ref it, .ref pa])), (pa, .inl (cI, 16, .inl (fun _ => -1))), (hi, .inr (1, [.ref pt, .ref sv, .ref iz, .int 0])), (te, .inr (4, [.ref sc, .ref wo, .ref hi, .ref fr, .ref va, .ref sa, .ref re, .int 0, .int (-1)])), (sa, .inr (5, [.ref sk, .ref si, .int 0]))] [(cI, .int), (cZ, .boolean), (cJ, .long)] sz)) (va_Qi (fun (r : Int32) (u : Unit) => r = 0) (fun _ t => post_ D (va_A [(h, .inr (7, [.ref sc, .ref wo, .ref hi, .ref te])), (wo, .inr (6, [.ref st, .int 0, .ref fl, .ref fn, .ref li, .int 0, .ref rc, .int 0, .int 0])), (st, .inr (3, [.ref kd, .ref it, .ref pa])), (pa, .inl (cI, 16, .inl (fun _ => -1))), (hi, .inr (1, [.ref pt, .ref sv, .ref iz, .int 0])), (te, .inr (4, [.ref sc, .ref wo, .ref hi, .ref fr, .ref va, .ref sa, .ref re, .int 0, .int (-1)])), (sa, .inr (5, [.ref sk, .ref si, .int 0]))] sz) [] t) (va_A [(h, .inr (7, [.ref sc, .ref wo, .ref hi, .ref te])), (wo, .inr (6, [.ref st, .int 0, .ref fl, .ref fn, .ref li, .int 0, .ref rc, .int 0, .int 0])), (st, .inr (3, [.ref kd, .ref it, .ref pa])), (pa, .inl (cI, 16, .inl (fun _ => -1))), (hi, .inr (1, [.ref pt, .ref sv, .ref iz, .int 0])), (te, .inr (4, [.ref sc, .ref wo, .ref hi, .ref fr, .ref va, .ref sa, .ref re, .int 0, .int (-1)])), (sa, .inr (5, [.ref sk, .ref si, .int 0]))] sz)) 0 0 (va_A [(h, .inr (7, [.ref sc, .ref wo, .ref hi, .ref te])), (wo, .inr (6, [.ref st, .int 0, .ref fl, .ref fn, .ref li, .int 0, .ref rc, .int 0, .int 0])), (st, .inr (3, [.ref kd, .ref it, .ref pa])), (pa, .inl (cI, 16, .inl (fun _ => -1))), (hi, .inr (1, [.ref pt, .ref sv, .ref iz, .int 0])), (te, .inr (4, [.ref sc, .ref wo, .ref hi, .ref fr, .ref va, .ref sa, .ref re, .int 0, .int (-1)])), (sa, .inr (5, [.ref sk, .ref si, .int 0]))] sz) := by
  refine Met.ofW (cc := prog_1_method_10_code) (maxL := 2) (ret := (some .int)) (by decide) rfl ?_
  intro p e s m args below meth c s₁ B hml hv
  obtain ⟨rfl, rfl, hP, hK, hD0, hT⟩ := hv
  have hx := B.exec
  have hb := B.bytes
  have hr := B.returns
  have hts0 := atoms_spec (ws := .code y_TM_show prog_1_method_10_code 2 (some .int) :: AW) B.pre
  have hts : ∀ w ∈ AW, w.before [.ref h, .int 3].toArray s = true := fun w h => hts0 w (List.mem_cons_of_mem _ h)
  have hown : s.vm.findClass "TaleMachine" = some m.cls := findClass_of_methodNamed B.named
  have hlocks := B.notSynchronized
  have hD := hD0.self (sz := s.heap.size)
  generalize hAe : va_A [(h, .inr (7, [.ref sc, .ref wo, .ref hi, .ref te])), (wo, .inr (6, [.ref st, .int 0, .ref fl, .ref fn, .ref li, .int 0, .ref rc, .int 0, .int 0])), (st, .inr (3, [.ref kd, .ref it, .ref pa])), (pa, .inl (cI, 16, .inl (fun _ => -1))), (hi, .inr (1, [.ref pt, .ref sv, .ref iz, .int 0])), (te, .inr (4, [.ref sc, .ref wo, .ref hi, .ref fr, .ref va, .ref sa, .ref re, .int 0, .int (-1)])), (sa, .inr (5, [.ref sk, .ref si, .int 0]))] s.heap.size = A at hD ⊢
  have hA : ∀ q : Nat, s.heap.size ≤ q → A q := fun q h => by rw [← hAe]; exact Or.inr h
  have hS : va_S A s.heap s.heap [] := va_S.rf
  have hl := lv_entry ([.ref h, .int 3]) (n := 2) (Nat.le_of_ble_eq_true rfl)
  rw [lg_entry_eq]
  generalize (lg_sl ([.ref h, .int 3]) ++ List.replicate (2 - (lg_sl ([.ref h, .int 3])).length) Slot.unset).toArray = ls at hl ⊢
  have hl : lv_has ls 2 [(0, .ref h), (1, .int 3)] := hl
  refine lv_iload_n hx hb d_TM_show_0 rfl (lv_at hl 1 rfl) ?_
  refine lv_iconst (v := 1) hx hb d_TM_show_1 (by decide) ?_
  refine lv_icmp_eq hx hb d_TM_show_2 (tgt := 10) (by decide) (fun hz => absurd hz (by decide)) (fun _ => ?_)
  refine lv_iload_n hx hb d_TM_show_5 rfl (lv_at hl 1 rfl) ?_
  refine lv_iconst (v := 2) hx hb d_TM_show_6 (by decide) ?_
  refine lv_icmp_ne hx hb d_TM_show_7 (tgt := 30) (by decide) (fun _ => ?_) (fun hz => absurd hz (by decide))
  refine lv_iload_n hx hb d_TM_show_30 rfl (lv_at hl 1 rfl) ?_
  refine lv_tableIn hx hb d_TM_show_31 (x := 3) (off := 67) (tgt := 98) (by decide) (by decide) rfl (by decide) ?_
  refine lv_aload_n hx hb d_TM_show_98 rfl (lv_at hl 0 rfl) ?_
  refine va_get (D := D) (ci := 7) (v := .ref hi) (C := "TaleMachine") (T := F_TM) (N := 4) hx hb hts in_TM hown hK hP 0 rfl rfl 2 (by decide) (hts _ k_116) (fun _ h9 => h9) rfl d_TM_show_99 ?_
  refine va_get (D := D) (ci := 1) (v := .int 0) (C := "TaleMachine$History") (T := F_History) (N := 4) hx hb hts in_History hown hK hP 4 rfl rfl 3 (by decide) (hts _ k_175) (fun _ h9 => h9) rfl d_TM_show_102 ?_
  exact end_i hx hb hr hlocks hS (u := ()) (r := 0) (at_end (hP.sub (ws' := []) [] rfl) (hD.sub (ws' := []) [] (by decide) rfl)) (rfl) (Nat.le_of_ble_eq_true rfl) (Nat.le_of_ble_eq_true rfl) d_TM_show_105

set_option maxHeartbeats 4000000 in
set_option maxRecDepth 100000 in
theorem c_TM_show_4 (l : Launch) (D : va_G) (cI cZ cJ : ClassId) (h sc by_ wo st fl fn li rc kd it pa hi pt sv iz te fr va sa re vk vi sk si rk ri : Nat) (sz : Nat)  : Met l y_TM_show (.code y_TM_show prog_1_method_10_code 2 (some .int) :: AW) ({ frames := 1, cells := 0, slots := 0, locals := 22 }) (va_Pc [.ref h, .int 4] (pre_ D [(h, .inr (7, [.ref sc, .ref wo, .ref hi, .ref te])), (wo, .inr (6, [.ref st, .int 0, .ref fl, .ref fn, .ref li, .int 0, .ref rc, .int 0, .int 0])), (st, .inr (3, [.ref kd, .ref it, .ref pa])), (pa, .inl (cI, 16, .inl (fun _ => -1))), (hi, .inr (1, [.ref pt, .ref sv, .ref iz, .int 0])), (te, .inr (4, [.ref sc, .ref wo, .ref hi, .ref fr, .ref va, .ref sa, .ref re, .int 0, .int (-1)])), (sa, .inr (5, [.ref sk, .ref si, .int 0]))] [(cI, .int), (cZ, .boolean), (cJ, .long)] sz)) (va_Qi (fun (r : Int32) (u : Unit) => r = 0) (fun _ t => post_ D (va_A [(h, .inr (7, [.ref sc, .ref wo, .ref hi, .ref te])), (wo, .inr (6, [.ref st, .int 0, .ref fl, .ref fn, .ref li, .int 0, .ref rc, .int 0, .int 0])), (st, .inr (3, [.ref kd, .ref it, .ref pa])), (pa, .inl (cI, 16, .inl (fun _ => -1))), (hi, .inr (1, [.ref pt, .ref sv, .ref iz, .int 0])), (te, .inr (4, [.ref sc, .ref wo, .ref hi, .ref fr, .ref va, .ref sa, .ref re, .int 0, .int (-1)])), (sa, .inr (5, [.ref sk, .ref si, .int 0]))] sz) [] t) (va_A [(h, .inr (7, [.ref sc, .ref wo, .ref hi, .ref te])), (wo, .inr (6, [.ref st, .int 0, .ref fl, .ref fn, .ref li, .int 0, .ref rc, .int 0, .int 0])), (st, .inr (3, [.ref kd, .ref it, .ref pa])), (pa, .inl (cI, 16, .inl (fun _ => -1))), (hi, .inr (1, [.ref pt, .ref sv, .ref iz, .int 0])), (te, .inr (4, [.ref sc, .ref wo, .ref hi, .ref fr, .ref va, .ref sa, .ref re, .int 0, .int (-1)])), (sa, .inr (5, [.ref sk, .ref si, .int 0]))] sz)) 0 0 (va_A [(h, .inr (7, [.ref sc, .ref wo, .ref hi, .ref te])), (wo, .inr (6, [.ref st, .int 0, .ref fl, .ref fn, .ref li, .int 0, .ref rc, .int 0, .int 0])), (st, .inr (3, [.ref kd, .ref it, .ref pa])), (pa, .inl (cI, 16, .inl (fun _ => -1))), (hi, .inr (1, [.ref pt, .ref sv, .ref iz, .int 0])), (te, .inr (4, [.ref sc, .ref wo, .ref hi, .ref fr, .ref va, .ref sa, .ref re, .int 0, .int (-1)])), (sa, .inr (5, [.ref sk, .ref si, .int 0]))] sz) := by
  refine Met.ofW (cc := prog_1_method_10_code) (maxL := 2) (ret := (some .int)) (by decide) rfl ?_
  intro p e s m args below meth c s₁ B hml hv
  obtain ⟨rfl, rfl, hP, hK, hD0, hT⟩ := hv
  have hx := B.exec
  have hb := B.bytes
  have hr := B.returns
  have hts0 := atoms_spec (ws := .code y_TM_show prog_1_method_10_code 2 (some .int) :: AW) B.pre
  have hts : ∀ w ∈ AW, w.before [.ref h, .int 4].toArray s = true := fun w h => hts0 w (List.mem_cons_of_mem _ h)
  have hown : s.vm.findClass "TaleMachine" = some m.cls := findClass_of_methodNamed B.named
  have hlocks := B.notSynchronized
  have hD := hD0.self (sz := s.heap.size)
  generalize hAe : va_A [(h, .inr (7, [.ref sc, .ref wo, .ref hi, .ref te])), (wo, .inr (6, [.ref st, .int 0, .ref fl, .ref fn, .ref li, .int 0, .ref rc, .int 0, .int 0])), (st, .inr (3, [.ref kd, .ref it, .ref pa])), (pa, .inl (cI, 16, .inl (fun _ => -1))), (hi, .inr (1, [.ref pt, .ref sv, .ref iz, .int 0])), (te, .inr (4, [.ref sc, .ref wo, .ref hi, .ref fr, .ref va, .ref sa, .ref re, .int 0, .int (-1)])), (sa, .inr (5, [.ref sk, .ref si, .int 0]))] s.heap.size = A at hD ⊢
  have hA : ∀ q : Nat, s.heap.size ≤ q → A q := fun q h => by rw [← hAe]; exact Or.inr h
  have hS : va_S A s.heap s.heap [] := va_S.rf
  have hl := lv_entry ([.ref h, .int 4]) (n := 2) (Nat.le_of_ble_eq_true rfl)
  rw [lg_entry_eq]
  generalize (lg_sl ([.ref h, .int 4]) ++ List.replicate (2 - (lg_sl ([.ref h, .int 4])).length) Slot.unset).toArray = ls at hl ⊢
  have hl : lv_has ls 2 [(0, .ref h), (1, .int 4)] := hl
  refine lv_iload_n hx hb d_TM_show_0 rfl (lv_at hl 1 rfl) ?_
  refine lv_iconst (v := 1) hx hb d_TM_show_1 (by decide) ?_
  refine lv_icmp_eq hx hb d_TM_show_2 (tgt := 10) (by decide) (fun hz => absurd hz (by decide)) (fun _ => ?_)
  refine lv_iload_n hx hb d_TM_show_5 rfl (lv_at hl 1 rfl) ?_
  refine lv_iconst (v := 2) hx hb d_TM_show_6 (by decide) ?_
  refine lv_icmp_ne hx hb d_TM_show_7 (tgt := 30) (by decide) (fun _ => ?_) (fun hz => absurd hz (by decide))
  refine lv_iload_n hx hb d_TM_show_30 rfl (lv_at hl 1 rfl) ?_
  refine lv_tableIn hx hb d_TM_show_31 (x := 4) (off := 75) (tgt := 106) (by decide) (by decide) rfl (by decide) ?_
  refine lv_aload_n hx hb d_TM_show_106 rfl (lv_at hl 0 rfl) ?_
  refine va_get (D := D) (ci := 7) (v := .ref wo) (C := "TaleMachine") (T := F_TM) (N := 4) hx hb hts in_TM hown hK hP 0 rfl rfl 1 (by decide) (hts _ k_109) (fun _ h9 => h9) rfl d_TM_show_107 ?_
  refine mv_i (va_runV (C := "TaleMachine$World") (As := []) (rest := []) ⟨hx, hb, hml, hown, hts⟩ (c_World_count l D cI cZ cJ wo st fl fn li rc kd it pa _ ) (cwV 0 hts (gInV k_177 k_178 k_179 k_106 k_176) rfl rfl rfl (by decide +kernel) ⟨Nat.le_of_ble_eq_true rfl, Nat.le_of_ble_eq_true rfl⟩) (pre_V (va_recv hK hP (q := ("TaleMachine$World", F_World, 9)) rfl (q0 := 1) rfl) (hP.sub [1, 2, 3] rfl) (hK.sub [0, 1, 2] rfl) (hD.sub [1, 2, 3] (by decide) rfl) hT) rfl rfl hl.1 rfl (lv_room (Nat.le_of_ble_eq_true rfl)) d_TM_show_110 ⟨Nat.le_of_ble_eq_true rfl, Nat.le_of_ble_eq_true rfl⟩) hP hD hS hA [1, 2, 3] [0, 4, 5, 6] rfl rfl (by decide) (by decide) (wr := [(h, .inr (7, [.ref sc, .ref wo, .ref hi, .ref te])), (hi, .inr (1, [.ref pt, .ref sv, .ref iz, .int 0])), (te, .inr (4, [.ref sc, .ref wo, .ref hi, .ref fr, .ref va, .ref sa, .ref re, .int 0, .int (-1)])), (sa, .inr (5, [.ref sk, .ref si, .int 0]))]) (wn := fun _ => []) (fun _ _ h9 => h9) (fun r1 _ H locs hp2 hP hD hS => ?_)
  have hP : va_P D cL [(h, .inr (7, [.ref sc, .ref wo, .ref hi, .ref te])), (hi, .inr (1, [.ref pt, .ref sv, .ref iz, .int 0])), (te, .inr (4, [.ref sc, .ref wo, .ref hi, .ref fr, .ref va, .ref sa, .ref re, .int 0, .int (-1)])), (sa, .inr (5, [.ref sk, .ref si, .int 0]))] H := hP
  have hD : va_D A [(h, .inr (7, [.ref sc, .ref wo, .ref hi, .ref te])), (hi, .inr (1, [.ref pt, .ref sv, .ref iz, .int 0])), (te, .inr (4, [.ref sc, .ref wo, .ref hi, .ref fr, .ref va, .ref sa, .ref re, .int 0, .int (-1)])), (sa, .inr (5, [.ref sk, .ref si, .int 0]))] := hD
  obtain rfl : r1 = 0 := hp2
  exact end_i hx hb hr hlocks hS (u := ()) (r := 0) (at_end (hP.sub (ws' := []) [] rfl) (hD.sub (ws' := []) [] (by decide) rfl)) (rfl) (Nat.le_of_ble_eq_true rfl) (Nat.le_of_ble_eq_true rfl) d_TM_show_113

set_option maxHeartbeats 4000000 in
set_option maxRecDepth 100000 in
theorem c_TM_show_5 (l : Launch) (D : va_G) (cI cZ cJ : ClassId) (h sc by_ wo st fl fn li rc kd it pa hi pt sv iz te fr va sa re vk vi sk si rk ri : Nat) (sz : Nat)  : Met l y_TM_show (.code y_TM_show prog_1_method_10_code 2 (some .int) :: AW) ({ frames := 0, cells := 0, slots := 0, locals := 0 }) (va_Pc [.ref h, .int 5] (pre_ D [(h, .inr (7, [.ref sc, .ref wo, .ref hi, .ref te])), (wo, .inr (6, [.ref st, .int 0, .ref fl, .ref fn, .ref li, .int 0, .ref rc, .int 0, .int 0])), (st, .inr (3, [.ref kd, .ref it, .ref pa])), (pa, .inl (cI, 16, .inl (fun _ => -1))), (hi, .inr (1, [.ref pt, .ref sv, .ref iz, .int 0])), (te, .inr (4, [.ref sc, .ref wo, .ref hi, .ref fr, .ref va, .ref sa, .ref re, .int 0, .int (-1)])), (sa, .inr (5, [.ref sk, .ref si, .int 0]))] [(cI, .int), (cZ, .boolean), (cJ, .long)] sz)) (va_Qi (fun (r : Int32) (u : Unit) => r = 0) (fun _ t => post_ D (va_A [(h, .inr (7, [.ref sc, .ref wo, .ref hi, .ref te])), (wo, .inr (6, [.ref st, .int 0, .ref fl, .ref fn, .ref li, .int 0, .ref rc, .int 0, .int 0])), (st, .inr (3, [.ref kd, .ref it, .ref pa])), (pa, .inl (cI, 16, .inl (fun _ => -1))), (hi, .inr (1, [.ref pt, .ref sv, .ref iz, .int 0])), (te, .inr (4, [.ref sc, .ref wo, .ref hi, .ref fr, .ref va, .ref sa, .ref re, .int 0, .int (-1)])), (sa, .inr (5, [.ref sk, .ref si, .int 0]))] sz) [] t) (va_A [(h, .inr (7, [.ref sc, .ref wo, .ref hi, .ref te])), (wo, .inr (6, [.ref st, .int 0, .ref fl, .ref fn, .ref li, .int 0, .ref rc, .int 0, .int 0])), (st, .inr (3, [.ref kd, .ref it, .ref pa])), (pa, .inl (cI, 16, .inl (fun _ => -1))), (hi, .inr (1, [.ref pt, .ref sv, .ref iz, .int 0])), (te, .inr (4, [.ref sc, .ref wo, .ref hi, .ref fr, .ref va, .ref sa, .ref re, .int 0, .int (-1)])), (sa, .inr (5, [.ref sk, .ref si, .int 0]))] sz)) 0 0 (va_A [(h, .inr (7, [.ref sc, .ref wo, .ref hi, .ref te])), (wo, .inr (6, [.ref st, .int 0, .ref fl, .ref fn, .ref li, .int 0, .ref rc, .int 0, .int 0])), (st, .inr (3, [.ref kd, .ref it, .ref pa])), (pa, .inl (cI, 16, .inl (fun _ => -1))), (hi, .inr (1, [.ref pt, .ref sv, .ref iz, .int 0])), (te, .inr (4, [.ref sc, .ref wo, .ref hi, .ref fr, .ref va, .ref sa, .ref re, .int 0, .int (-1)])), (sa, .inr (5, [.ref sk, .ref si, .int 0]))] sz) := by
  refine Met.ofW (cc := prog_1_method_10_code) (maxL := 2) (ret := (some .int)) (by decide) rfl ?_
  intro p e s m args below meth c s₁ B hml hv
  obtain ⟨rfl, rfl, hP, hK, hD0, hT⟩ := hv
  have hx := B.exec
  have hb := B.bytes
  have hr := B.returns
  have hts0 := atoms_spec (ws := .code y_TM_show prog_1_method_10_code 2 (some .int) :: AW) B.pre
  have hts : ∀ w ∈ AW, w.before [.ref h, .int 5].toArray s = true := fun w h => hts0 w (List.mem_cons_of_mem _ h)
  have hown : s.vm.findClass "TaleMachine" = some m.cls := findClass_of_methodNamed B.named
  have hlocks := B.notSynchronized
  have hD := hD0.self (sz := s.heap.size)
  generalize hAe : va_A [(h, .inr (7, [.ref sc, .ref wo, .ref hi, .ref te])), (wo, .inr (6, [.ref st, .int 0, .ref fl, .ref fn, .ref li, .int 0, .ref rc, .int 0, .int 0])), (st, .inr (3, [.ref kd, .ref it, .ref pa])), (pa, .inl (cI, 16, .inl (fun _ => -1))), (hi, .inr (1, [.ref pt, .ref sv, .ref iz, .int 0])), (te, .inr (4, [.ref sc, .ref wo, .ref hi, .ref fr, .ref va, .ref sa, .ref re, .int 0, .int (-1)])), (sa, .inr (5, [.ref sk, .ref si, .int 0]))] s.heap.size = A at hD ⊢
  have hA : ∀ q : Nat, s.heap.size ≤ q → A q := fun q h => by rw [← hAe]; exact Or.inr h
  have hS : va_S A s.heap s.heap [] := va_S.rf
  have hl := lv_entry ([.ref h, .int 5]) (n := 2) (Nat.le_of_ble_eq_true rfl)
  rw [lg_entry_eq]
  generalize (lg_sl ([.ref h, .int 5]) ++ List.replicate (2 - (lg_sl ([.ref h, .int 5])).length) Slot.unset).toArray = ls at hl ⊢
  have hl : lv_has ls 2 [(0, .ref h), (1, .int 5)] := hl
  refine lv_iload_n hx hb d_TM_show_0 rfl (lv_at hl 1 rfl) ?_
  refine lv_iconst (v := 1) hx hb d_TM_show_1 (by decide) ?_
  refine lv_icmp_eq hx hb d_TM_show_2 (tgt := 10) (by decide) (fun hz => absurd hz (by decide)) (fun _ => ?_)
  refine lv_iload_n hx hb d_TM_show_5 rfl (lv_at hl 1 rfl) ?_
  refine lv_iconst (v := 2) hx hb d_TM_show_6 (by decide) ?_
  refine lv_icmp_ne hx hb d_TM_show_7 (tgt := 30) (by decide) (fun _ => ?_) (fun hz => absurd hz (by decide))
  refine lv_iload_n hx hb d_TM_show_30 rfl (lv_at hl 1 rfl) ?_
  refine lv_tableIn hx hb d_TM_show_31 (x := 5) (off := 83) (tgt := 114) (by decide) (by decide) rfl (by decide) ?_
  refine lv_aload_n hx hb d_TM_show_114 rfl (lv_at hl 0 rfl) ?_
  refine va_get (D := D) (ci := 7) (v := .ref te) (C := "TaleMachine") (T := F_TM) (N := 4) hx hb hts in_TM hown hK hP 0 rfl rfl 3 (by decide) (hts _ k_123) (fun _ h9 => h9) rfl d_TM_show_115 ?_
  refine va_get (D := D) (ci := 4) (v := .ref sa) (C := "TaleMachine$Teller") (T := F_Teller) (N := 9) hx hb hts in_Teller hown hK hP 5 rfl rfl 5 (by decide) (hts _ k_180) (fun _ h9 => h9) rfl d_TM_show_118 ?_
  refine va_get (D := D) (ci := 5) (v := .int 0) (C := "TaleMachine$Values") (T := F_Values) (N := 3) hx hb hts in_Values hown hK hP 6 rfl rfl 2 (by decide) (hts _ k_181) (fun _ h9 => h9) rfl d_TM_show_121 ?_
  exact end_i hx hb hr hlocks hS (u := ()) (r := 0) (at_end (hP.sub (ws' := []) [] rfl) (hD.sub (ws' := []) [] (by decide) rfl)) (rfl) (Nat.le_of_ble_eq_true rfl) (Nat.le_of_ble_eq_true rfl) d_TM_show_124
