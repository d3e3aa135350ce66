set_option maxHeartbeats 4000000 in
set_option maxRecDepth 100000 in
theorem s_instruction (l : Launch) (D : va_G) (cI cZ cJ : ClassId) (h by_ : Nat) (ln : Nat) (fb : Nat → Int32) (ad : Int32) (sz : Nat) (hln : ln ≤ 300) (hB : BY fb) : Met l y_Script_instruction (.code y_Script_instruction prog_4_method_6_code 3 (some .int) :: AW) ({ frames := 1, cells := 0, slots := 0, locals := 21 }) (va_Pc [.ref h, .int ad] (preL_ D [(h, .inr (2, [.ref by_, .int (nI ln)])), (by_, .inl (cI, 300, .inl fb))] [(cI, .int), (cZ, .boolean), (cJ, .long)] sz)) (va_Qi (fun (r : Int32) (u : Unit) => r = -1 ∨ ∃ b, b < 35 ∧ r = nI b) (fun _ t => post_ D (va_A [(h, .inr (2, [.ref by_, .int (nI ln)])), (by_, .inl (cI, 300, .inl fb))] sz) [(h, .inr (2, [.ref by_, .int (nI ln)])), (by_, .inl (cI, 300, .inl fb))] t) (va_A [(h, .inr (2, [.ref by_, .int (nI ln)])), (by_, .inl (cI, 300, .inl fb))] sz)) 0 0 (va_A [(h, .inr (2, [.ref by_, .int (nI ln)])), (by_, .inl (cI, 300, .inl fb))] sz) := by
  refine Met.ofW (cc := prog_4_method_6_code) (maxL := 3) (ret := (some .int)) (by decide) rfl ?_
  intro p e s m args below meth c s₁ B hml hv
  obtain ⟨rfl, ⟨rfl, hP, hK, hD0, hT⟩, hL⟩ := hv
  have hx := B.exec
  have hb := B.bytes
  have hr := B.returns
  have hts0 := atoms_spec (ws := .code y_Script_instruction prog_4_method_6_code 3 (some .int) :: AW) B.pre
  have hts : ∀ w ∈ AW, w.before [.ref h, .int ad].toArray s = true := fun w h => hts0 w (List.mem_cons_of_mem _ h)
  have hown : s.vm.findClass "TaleMachine$Script" = some m.cls := findClass_of_methodNamed B.named
  have hlocks := B.notSynchronized
  have hD := hD0.self (sz := s.heap.size)
  generalize hAe : va_A [(h, .inr (2, [.ref by_, .int (nI ln)])), (by_, .inl (cI, 300, .inl fb))] s.heap.size = A at hL hD ⊢
  have hA : ∀ q : Nat, s.heap.size ≤ q → A q := fun q h => by rw [← hAe]; exact Or.inr h
  have hS : va_S A s.heap s.heap [] := va_S.rf
  have hl := lv_entry ([.ref h, .int ad]) (n := 3) (Nat.le_of_ble_eq_true rfl)
  rw [lg_entry_eq]
  generalize (lg_sl ([.ref h, .int ad]) ++ List.replicate (3 - (lg_sl ([.ref h, .int ad])).length) Slot.unset).toArray = ls at hl ⊢
  have hl : lv_has ls 3 [(0, .ref h), (1, .int ad)] := hl
  have hL2 := hL
  obtain ⟨hTc, tL, fL, hLZ, hLT, hLC⟩ := hL2
  refine lv_aload_n hx hb d_Script_instruction_0 rfl (lv_at hl 0 rfl) ?_
  refine lv_iload_n hx hb d_Script_instruction_1 rfl (lv_at hl 1 rfl) ?_
  refine mv_i (va_runV (C := "TaleMachine$Script") (As := [.int ad]) (rest := []) ⟨hx, hb, hml, hown, hts⟩ (s_atv l D cI cZ cJ h by_ ln fb ad _ (by first | assumption | omega | decide)) (cwV 1 hts (gInV k_203 k_204 k_205 k_2 k_206) rfl rfl rfl (by decide +kernel) ⟨Nat.le_of_ble_eq_true rfl, Nat.le_of_ble_eq_true rfl⟩) (pre_V (va_recv hK hP (q := ("TaleMachine$Script", F_Script, 2)) rfl (q0 := 0) rfl) (hP.sub [0, 1] rfl) (hK.sub [0, 1, 2] rfl) (hD.sub [0, 1] (by decide) rfl) hT) rfl rfl hl.1 rfl (lv_room (Nat.le_of_ble_eq_true rfl)) d_Script_instruction_2 ⟨Nat.le_of_ble_eq_true rfl, Nat.le_of_ble_eq_true rfl⟩) hP hD hS hA [0, 1] [] rfl rfl (by decide) (by decide) (wr := []) (wn := fun _ => [(h, .inr (2, [.ref by_, .int (nI ln)])), (by_, .inl (cI, 300, .inl fb))]) (fun _ _ h9 => h9) (fun r1 _ H locs hp2 hP hD hS => ?_)
  have hP : va_P D cL [(h, .inr (2, [.ref by_, .int (nI ln)])), (by_, .inl (cI, 300, .inl fb))] H := hP
  have hD : va_D A [(h, .inr (2, [.ref by_, .int (nI ln)])), (by_, .inl (cI, 300, .inl fb))] := hD
  obtain rfl : r1 = satv fb ln ad := hp2
  refine lv_istore_n (lv' := [(2, .int (satv fb ln ad)), (0, .ref h), (1, .int ad)]) hx hb d_Script_instruction_5 rfl hl (by decide) rfl (fun ls hl => ?_)
  refine lv_iload_n hx hb d_Script_instruction_6 rfl (lv_at hl 0 rfl) ?_
  refine lv_iconst (v := (-1)) hx hb d_Script_instruction_7 (by decide) ?_
  refine lv_icmp_eq hx hb d_Script_instruction_8 (tgt := 37) (by decide) (fun hc3 => ?_) (fun hc3 => ?_)
  · refine lv_iconst (v := (-1)) hx hb d_Script_instruction_37 (by decide) ?_
    exact end_i hx hb hr hlocks hS (u := ()) (r := (-1)) (at_end (hP.sub (ws' := [(h, .inr (2, [.ref by_, .int (nI ln)])), (by_, .inl (cI, 300, .inl fb))]) [0, 1] rfl) (hD.sub (ws' := [(h, .inr (2, [.ref by_, .int (nI ln)])), (by_, .inl (cI, 300, .inl fb))]) [0, 1] (by decide) rfl)) (Or.inl rfl) (Nat.le_of_ble_eq_true rfl) (Nat.le_of_ble_eq_true rfl) d_Script_instruction_38
  · refine lv_iload_n hx hb d_Script_instruction_11 rfl (lv_at hl 0 rfl) ?_
    refine va_gets hx hb hLZ hS hown (hts _ k_207) (fun _ h9 => h9) d_Script_instruction_12 ?_
    refine va_tlen hx hb hLT hS (v := 35) rfl d_Script_instruction_15 ?_
    refine lv_icmp_ge hx hb d_Script_instruction_16 (tgt := 37) (by decide) (fun hc4 => ?_) (fun hc4 => ?_)
    · refine lv_iconst (v := (-1)) hx hb d_Script_instruction_37 (by decide) ?_
      exact end_i hx hb hr hlocks hS (u := ()) (r := (-1)) (at_end (hP.sub (ws' := [(h, .inr (2, [.ref by_, .int (nI ln)])), (by_, .inl (cI, 300, .inl fb))]) [0, 1] rfl) (hD.sub (ws' := [(h, .inr (2, [.ref by_, .int (nI ln)])), (by_, .inl (cI, 300, .inl fb))]) [0, 1] (by decide) rfl)) (Or.inl rfl) (Nat.le_of_ble_eq_true rfl) (Nat.le_of_ble_eq_true rfl) d_Script_instruction_38
    · obtain ⟨b9, hb9, e9⟩ := bt_lt (satv_bt hB hln) (n := 35) (by decide) hc3 hc4
      rw [e9] at hl
      have hl : lv_has ls 3 [(2, .int (nI b9)), (0, .ref h), (1, .int ad)] := hl
      refine lv_iload_n hx hb d_Script_instruction_19 rfl (lv_at hl 2 rfl) ?_
      refine va_gets hx hb hLZ hS hown (hts _ k_207) (fun _ h9 => h9) d_Script_instruction_20 ?_
      refine lv_iload_n hx hb d_Script_instruction_23 rfl (lv_at hl 0 rfl) ?_
      refine va_ti hx hb hLT hS (i := nI b9) (vp_in_nI (by omega) (by decide)) (v := .int (fL (nI b9).toNatClampNeg)) rfl d_Script_instruction_24 ?_
      refine lv_topi (fun z5 hz5 => ?_)
      refine lv_iadd hx hb d_Script_instruction_25 ?_
      refine lv_topi (fun z6 hz6 => ?_)
      refine lv_aload_n hx hb d_Script_instruction_26 rfl (lv_at hl 1 rfl) ?_
      refine va_get (D := D) (ci := 2) (v := .int (nI ln)) (C := "TaleMachine$Script") (T := F_Script) (N := 2) hx hb hts in_Script hown hK hP 0 rfl rfl 1 (by decide) (hts _ k_33) (fun _ h9 => h9) rfl d_Script_instruction_27 ?_
      refine lv_icmp_gt hx hb d_Script_instruction_30 (tgt := 37) (by decide) (fun hc7 => ?_) (fun hc7 => ?_)
      · refine lv_iconst (v := (-1)) hx hb d_Script_instruction_37 (by decide) ?_
        exact end_i hx hb hr hlocks hS (u := ()) (r := (-1)) (at_end (hP.sub (ws' := [(h, .inr (2, [.ref by_, .int (nI ln)])), (by_, .inl (cI, 300, .inl fb))]) [0, 1] rfl) (hD.sub (ws' := [(h, .inr (2, [.ref by_, .int (nI ln)])), (by_, .inl (cI, 300, .inl fb))]) [0, 1] (by decide) rfl)) (Or.inl rfl) (Nat.le_of_ble_eq_true rfl) (Nat.le_of_ble_eq_true rfl) d_Script_instruction_38
      · refine lv_iload_n hx hb d_Script_instruction_33 rfl (lv_at hl 0 rfl) ?_
        refine lv_goto hx hb d_Script_instruction_34 (tgt := 38) (by decide) ?_
        exact end_i hx hb hr hlocks hS (u := ()) (r := (nI b9)) (at_end (hP.sub (ws' := [(h, .inr (2, [.ref by_, .int (nI ln)])), (by_, .inl (cI, 300, .inl fb))]) [0, 1] rfl) (hD.sub (ws' := [(h, .inr (2, [.ref by_, .int (nI ln)])), (by_, .inl (cI, 300, .inl fb))]) [0, 1] (by decide) rfl)) (Or.inr ⟨b9, hb9, rfl⟩) (Nat.le_of_ble_eq_true rfl) (Nat.le_of_ble_eq_true rfl) d_Script_instruction_38

set_option maxHeartbeats 4000000 in
set_option maxRecDepth 100000 in
theorem s_behind (l : Launch) (D : va_G) (cI cZ cJ : ClassId) (h : Nat) (ad : Int32) (ins : Int32) (sz : Nat) (hi9 : ins = -1 ∨ ∃ b, b < 35 ∧ ins = nI b) : Met l y_Script_behind (.code y_Script_behind prog_4_method_7_code 3 (some .int) :: AW) ({ frames := 0, cells := 0, slots := 0, locals := 0 }) (va_Pc [.ref h, .int ad, .int ins] (preL_ D [] [(cI, .int), (cZ, .boolean), (cJ, .long)] sz)) (va_Qi (fun (r : Int32) (u : Unit) => True) (fun _ t => post_ D (va_A [] sz) [] t) (va_A [] sz)) 0 0 (va_A [] sz) := by
  refine Met.ofW (cc := prog_4_method_7_code) (maxL := 3) (ret := (some .int)) (by decide) rfl ?_
  intro p e s m args below meth c s₁ B hml hv
  obtain ⟨rfl, ⟨rfl, hP, hK, hD0, hT⟩, hL⟩ := hv
  have hx := B.exec
  have hb := B.bytes
  have hr := B.returns
  have hts0 := atoms_spec (ws := .code y_Script_behind prog_4_method_7_code 3 (some .int) :: AW) B.pre
  have hts : ∀ w ∈ AW, w.before [.ref h, .int ad, .int ins].toArray s = true := fun w h => hts0 w (List.mem_cons_of_mem _ h)
  have hown : s.vm.findClass "TaleMachine$Script" = some m.cls := findClass_of_methodNamed B.named
  have hlocks := B.notSynchronized
  have hD := hD0.self (sz := s.heap.size)
  generalize hAe : va_A [] s.heap.size = A at hL hD ⊢
  have hA : ∀ q : Nat, s.heap.size ≤ q → A q := fun q h => by rw [← hAe]; exact Or.inr h
  have hS : va_S A s.heap s.heap [] := va_S.rf
  have hl := lv_entry ([.ref h, .int ad, .int ins]) (n := 3) (Nat.le_of_ble_eq_true rfl)
  rw [lg_entry_eq]
  generalize (lg_sl ([.ref h, .int ad, .int ins]) ++ List.replicate (3 - (lg_sl ([.ref h, .int ad, .int ins])).length) Slot.unset).toArray = ls at hl ⊢
  have hl : lv_has ls 3 [(0, .ref h), (1, .int ad), (2, .int ins)] := hl
  have hL2 := hL
  obtain ⟨hTc, tL, fL, hLZ, hLT, hLC⟩ := hL2
  refine lv_iload_n hx hb d_Script_behind_0 rfl (lv_at hl 2 rfl) ?_
  refine lv_iconst (v := (-1)) hx hb d_Script_behind_1 (by decide) ?_
  refine lv_icmp_ne hx hb d_Script_behind_2 (tgt := 9) (by decide) (fun hc1 => ?_) (fun hc1 => ?_)
  · obtain ⟨b9, hb9, e9⟩ := hi9.resolve_left hc1
    subst e9
    refine lv_iload_n hx hb d_Script_behind_9 rfl (lv_at hl 1 rfl) ?_
    refine va_gets hx hb hLZ hS hown (hts _ k_207) (fun _ h9 => h9) d_Script_behind_10 ?_
    refine lv_iload_n hx hb d_Script_behind_13 rfl (lv_at hl 2 rfl) ?_
    refine va_ti hx hb hLT hS (i := nI b9) (vp_in_nI (by omega) (by decide)) (v := .int (fL (nI b9).toNatClampNeg)) rfl d_Script_behind_14 ?_
    refine lv_topi (fun z2 hz2 => ?_)
    refine lv_iadd hx hb d_Script_behind_15 ?_
    refine lv_topi (fun z3 hz3 => ?_)
    exact end_i hx hb hr hlocks hS (u := ()) (r := z3) (at_end (hP.sub (ws' := []) [] rfl) (hD.sub (ws' := []) [] (by decide) rfl)) (trivial) (Nat.le_of_ble_eq_true rfl) (Nat.le_of_ble_eq_true rfl) d_Script_behind_16
  · refine lv_iload_n hx hb d_Script_behind_5 rfl (lv_at hl 1 rfl) ?_
    refine lv_goto hx hb d_Script_behind_6 (tgt := 16) (by decide) ?_
    exact end_i hx hb hr hlocks hS (u := ()) (r := ad) (at_end (hP.sub (ws' := []) [] rfl) (hD.sub (ws' := []) [] (by decide) rfl)) (trivial) (Nat.le_of_ble_eq_true rfl) (Nat.le_of_ble_eq_true rfl) d_Script_behind_16
