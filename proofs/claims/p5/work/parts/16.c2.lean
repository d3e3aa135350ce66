set_option maxHeartbeats 4000000 in
set_option maxRecDepth 100000 in
theorem w_isFixed (l : Launch) (D : va_G) (cI cZ cJ : ClassId) (h st fl fn li rc kd it pa : Nat) (fx le rn_ : Nat) (rb : Int32) (oo : Int32) (sz : Nat) (hfx : fx ≤ 16) : Met l y_World_isFixed (.code y_World_isFixed prog_8_method_2_code 2 (some .boolean) :: AW) ({ frames := 0, cells := 0, slots := 0, locals := 0 }) (va_Pc [.ref h, .int oo] (pre_ D [(h, .inr (6, [.ref st, .int (nI fx), .ref fl, .ref fn, .ref li, .int (nI le), .ref rc, .int (nI rn_), .int rb]))] [(cI, .int), (cZ, .boolean), (cJ, .long)] sz)) (va_Qi (fun (r : Int32) (u : Unit) => (r = 0 ∨ r = 1) ∧ (r = 1 ↔ ∃ j, j < fx ∧ oo = nI j)) (fun _ t => post_ D (va_A [(h, .inr (6, [.ref st, .int (nI fx), .ref fl, .ref fn, .ref li, .int (nI le), .ref rc, .int (nI rn_), .int rb]))] sz) [(h, .inr (6, [.ref st, .int (nI fx), .ref fl, .ref fn, .ref li, .int (nI le), .ref rc, .int (nI rn_), .int rb]))] t) (va_A [(h, .inr (6, [.ref st, .int (nI fx), .ref fl, .ref fn, .ref li, .int (nI le), .ref rc, .int (nI rn_), .int rb]))] sz)) 0 0 (va_A [(h, .inr (6, [.ref st, .int (nI fx), .ref fl, .ref fn, .ref li, .int (nI le), .ref rc, .int (nI rn_), .int rb]))] sz) := by
  refine Met.ofW (cc := prog_8_method_2_code) (maxL := 2) (ret := (some .boolean)) (by decide) rfl ?_
  intro p e s m args below meth c s₁ B hml hv
  obtain ⟨rfl, rfl, hP, hK, hD0, hT⟩ := hv
  have hx := B.exec
  have hb := B.bytes
  have hr := B.returns
  have hts0 := atoms_spec (ws := .code y_World_isFixed prog_8_method_2_code 2 (some .boolean) :: AW) B.pre
  have hts : ∀ w ∈ AW, w.before [.ref h, .int oo].toArray s = true := fun w h => hts0 w (List.mem_cons_of_mem _ h)
  have hown : s.vm.findClass "TaleMachine$World" = some m.cls := findClass_of_methodNamed B.named
  have hlocks := B.notSynchronized
  have hD := hD0.self (sz := s.heap.size)
  generalize hAe : va_A [(h, .inr (6, [.ref st, .int (nI fx), .ref fl, .ref fn, .ref li, .int (nI le), .ref rc, .int (nI rn_), .int rb]))] s.heap.size = A at hD ⊢
  have hA : ∀ q : Nat, s.heap.size ≤ q → A q := fun q h => by rw [← hAe]; exact Or.inr h
  have hS : va_S A s.heap s.heap [] := va_S.rf
  have hl := lv_entry ([.ref h, .int oo]) (n := 2) (Nat.le_of_ble_eq_true rfl)
  rw [lg_entry_eq]
  generalize (lg_sl ([.ref h, .int oo]) ++ List.replicate (2 - (lg_sl ([.ref h, .int oo])).length) Slot.unset).toArray = ls at hl ⊢
  have hl : lv_has ls 2 [(0, .ref h), (1, .int oo)] := hl
  refine lv_iload_n hx hb d_World_isFixed_0 rfl (lv_at hl 1 rfl) ?_
  refine lv_if_lt hx hb d_World_isFixed_1 (tgt := 16) (by decide) (fun hc1 => ?_) (fun hc1 => ?_)
  · refine lv_iconst (v := 0) hx hb d_World_isFixed_16 (by decide) ?_
    exact end_z hx hb hr hlocks hS (u := ()) (r := 0) (at_end (hP.sub (ws' := [(h, .inr (6, [.ref st, .int (nI fx), .ref fl, .ref fn, .ref li, .int (nI le), .ref rc, .int (nI rn_), .int rb]))]) [0] rfl) (hD.sub (ws' := [(h, .inr (6, [.ref st, .int (nI fx), .ref fl, .ref fn, .ref li, .int (nI le), .ref rc, .int (nI rn_), .int rb]))]) [0] (by decide) rfl)) (⟨Or.inl rfl, ⟨fun h9 => absurd h9 (by decide), fun ⟨j, hj, e⟩ => absurd hc1 (by rw [e]; exact nI_pos (by omega))⟩⟩) (by decide) (Nat.le_of_ble_eq_true rfl) (Nat.le_of_ble_eq_true rfl) d_World_isFixed_17
  · refine lv_iload_n hx hb d_World_isFixed_4 rfl (lv_at hl 1 rfl) ?_
    refine lv_aload_n hx hb d_World_isFixed_5 rfl (lv_at hl 0 rfl) ?_
    refine va_get (D := D) (ci := 6) (v := .int (nI fx)) (C := "TaleMachine$World") (T := F_World) (N := 9) hx hb hts in_World hown hK hP 0 rfl rfl 1 (by decide) (hts _ k_62) (fun _ h9 => h9) rfl d_World_isFixed_6 ?_
    refine lv_icmp_ge hx hb d_World_isFixed_9 (tgt := 16) (by decide) (fun hc2 => ?_) (fun hc2 => ?_)
    · refine lv_iconst (v := 0) hx hb d_World_isFixed_16 (by decide) ?_
      exact end_z hx hb hr hlocks hS (u := ()) (r := 0) (at_end (hP.sub (ws' := [(h, .inr (6, [.ref st, .int (nI fx), .ref fl, .ref fn, .ref li, .int (nI le), .ref rc, .int (nI rn_), .int rb]))]) [0] rfl) (hD.sub (ws' := [(h, .inr (6, [.ref st, .int (nI fx), .ref fl, .ref fn, .ref li, .int (nI le), .ref rc, .int (nI rn_), .int rb]))]) [0] (by decide) rfl)) (⟨Or.inl rfl, ⟨fun h9 => absurd h9 (by decide), fun ⟨j, hj, e⟩ => absurd hc2 (by rw [e]; exact nI_ge hj (by omega))⟩⟩) (by decide) (Nat.le_of_ble_eq_true rfl) (Nat.le_of_ble_eq_true rfl) d_World_isFixed_17
    · refine lv_iconst (v := 1) hx hb d_World_isFixed_12 (by decide) ?_
      refine lv_goto hx hb d_World_isFixed_13 (tgt := 17) (by decide) ?_
      exact end_z hx hb hr hlocks hS (u := ()) (r := 1) (at_end (hP.sub (ws' := [(h, .inr (6, [.ref st, .int (nI fx), .ref fl, .ref fn, .ref li, .int (nI le), .ref rc, .int (nI rn_), .int rb]))]) [0] rfl) (hD.sub (ws' := [(h, .inr (6, [.ref st, .int (nI fx), .ref fl, .ref fn, .ref li, .int (nI le), .ref rc, .int (nI rn_), .int rb]))]) [0] (by decide) rfl)) (⟨Or.inr rfl, ⟨fun _ => sat_ix (by omega) hc1 hc2, fun _ => rfl⟩⟩) (by decide) (Nat.le_of_ble_eq_true rfl) (Nat.le_of_ble_eq_true rfl) d_World_isFixed_17

set_option maxHeartbeats 4000000 in
set_option maxRecDepth 100000 in
theorem w_isThere (l : Launch) (D : va_G) (cI cZ cJ : ClassId) (h st fl fn li rc kd it pa : Nat) (fx le rn_ : Nat) (rb : Int32) (oo : Int32) (fpa : Nat → Int32) (sz : Nat) (hfx : fx ≤ 16) : Met l y_World_isThere (.code y_World_isThere prog_8_method_3_code 2 (some .boolean) :: AW) ({ frames := 1, cells := 0, slots := 0, locals := 21 }) (va_Pc [.ref h, .int oo] (pre_ D [(h, .inr (6, [.ref st, .int (nI fx), .ref fl, .ref fn, .ref li, .int (nI le), .ref rc, .int (nI rn_), .int rb])), (st, .inr (3, [.ref kd, .ref it, .ref pa])), (pa, .inl (cI, 16, .inl fpa))] [(cI, .int), (cZ, .boolean), (cJ, .long)] sz)) (va_Qi (fun (r : Int32) (u : Unit) => (r = 0 ∨ r = 1) ∧ (r = 1 ↔ (∃ j, j < fx ∧ oo = nI j) ∨ ∃ j, 16 ≤ j ∧ j < 32 ∧ oo = nI j ∧ fpa (j - 16) ≠ -1)) (fun _ t => post_ D (va_A [(h, .inr (6, [.ref st, .int (nI fx), .ref fl, .ref fn, .ref li, .int (nI le), .ref rc, .int (nI rn_), .int rb])), (st, .inr (3, [.ref kd, .ref it, .ref pa])), (pa, .inl (cI, 16, .inl fpa))] sz) [(h, .inr (6, [.ref st, .int (nI fx), .ref fl, .ref fn, .ref li, .int (nI le), .ref rc, .int (nI rn_), .int rb])), (st, .inr (3, [.ref kd, .ref it, .ref pa])), (pa, .inl (cI, 16, .inl fpa))] t) (va_A [(h, .inr (6, [.ref st, .int (nI fx), .ref fl, .ref fn, .ref li, .int (nI le), .ref rc, .int (nI rn_), .int rb])), (st, .inr (3, [.ref kd, .ref it, .ref pa])), (pa, .inl (cI, 16, .inl fpa))] sz)) 0 0 (va_A [(h, .inr (6, [.ref st, .int (nI fx), .ref fl, .ref fn, .ref li, .int (nI le), .ref rc, .int (nI rn_), .int rb])), (st, .inr (3, [.ref kd, .ref it, .ref pa])), (pa, .inl (cI, 16, .inl fpa))] sz) := by
  refine Met.ofW (cc := prog_8_method_3_code) (maxL := 2) (ret := (some .boolean)) (by decide) rfl ?_
  intro p e s m args below meth c s₁ B hml hv
  obtain ⟨rfl, rfl, hP, hK, hD0, hT⟩ := hv
  have hx := B.exec
  have hb := B.bytes
  have hr := B.returns
  have hts0 := atoms_spec (ws := .code y_World_isThere prog_8_method_3_code 2 (some .boolean) :: AW) B.pre
  have hts : ∀ w ∈ AW, w.before [.ref h, .int oo].toArray s = true := fun w h => hts0 w (List.mem_cons_of_mem _ h)
  have hown : s.vm.findClass "TaleMachine$World" = some m.cls := findClass_of_methodNamed B.named
  have hlocks := B.notSynchronized
  have hD := hD0.self (sz := s.heap.size)
  generalize hAe : va_A [(h, .inr (6, [.ref st, .int (nI fx), .ref fl, .ref fn, .ref li, .int (nI le), .ref rc, .int (nI rn_), .int rb])), (st, .inr (3, [.ref kd, .ref it, .ref pa])), (pa, .inl (cI, 16, .inl fpa))] s.heap.size = A at hD ⊢
  have hA : ∀ q : Nat, s.heap.size ≤ q → A q := fun q h => by rw [← hAe]; exact Or.inr h
  have hS : va_S A s.heap s.heap [] := va_S.rf
  have hl := lv_entry ([.ref h, .int oo]) (n := 2) (Nat.le_of_ble_eq_true rfl)
  rw [lg_entry_eq]
  generalize (lg_sl ([.ref h, .int oo]) ++ List.replicate (2 - (lg_sl ([.ref h, .int oo])).length) Slot.unset).toArray = ls at hl ⊢
  have hl : lv_has ls 2 [(0, .ref h), (1, .int oo)] := hl
  refine lv_aload_n hx hb d_World_isThere_0 rfl (lv_at hl 0 rfl) ?_
  refine lv_iload_n hx hb d_World_isThere_1 rfl (lv_at hl 1 rfl) ?_
  refine mv_i (va_runV (C := "TaleMachine$World") (As := [.int oo]) (rest := []) ⟨hx, hb, hml, hown, hts⟩ (w_isFixed l D cI cZ cJ h st fl fn li rc 0 0 0 fx le rn_ rb oo _ (by first | assumption | omega | decide)) (cwV 1 hts (gInV k_235 k_236 k_237 k_3 k_238) rfl rfl rfl (by decide +kernel) ⟨Nat.le_of_ble_eq_true rfl, Nat.le_of_ble_eq_true rfl⟩) (pre_V (va_recv hK hP (q := ("TaleMachine$World", F_World, 9)) rfl (q0 := 0) rfl) (hP.sub [0] rfl) (hK.sub [0, 1, 2] rfl) (hD.sub [0] (by decide) rfl) hT) rfl rfl hl.1 rfl (lv_room (Nat.le_of_ble_eq_true rfl)) d_World_isThere_2 ⟨Nat.le_of_ble_eq_true rfl, Nat.le_of_ble_eq_true rfl⟩) hP hD hS hA [0] [1, 2] rfl rfl (by decide) (by decide) (wr := [(st, .inr (3, [.ref kd, .ref it, .ref pa])), (pa, .inl (cI, 16, .inl fpa))]) (wn := fun _ => [(h, .inr (6, [.ref st, .int (nI fx), .ref fl, .ref fn, .ref li, .int (nI le), .ref rc, .int (nI rn_), .int rb]))]) (fun _ _ h9 => h9) (fun r1 _ H locs hp2 hP hD hS => ?_)
  have hP : va_P D cL [(st, .inr (3, [.ref kd, .ref it, .ref pa])), (pa, .inl (cI, 16, .inl fpa)), (h, .inr (6, [.ref st, .int (nI fx), .ref fl, .ref fn, .ref li, .int (nI le), .ref rc, .int (nI rn_), .int rb]))] H := hP
  have hD : va_D A [(st, .inr (3, [.ref kd, .ref it, .ref pa])), (pa, .inl (cI, 16, .inl fpa)), (h, .inr (6, [.ref st, .int (nI fx), .ref fl, .ref fn, .ref li, .int (nI le), .ref rc, .int (nI rn_), .int rb]))] := hD
  refine lv_if_ne hx hb d_World_isThere_5 (tgt := 36) (by decide) (fun hc3 => ?_) (fun hc3 => ?_)
  · refine lv_iconst (v := 1) hx hb d_World_isThere_36 (by decide) ?_
    refine lv_goto hx hb d_World_isThere_37 (tgt := 41) (by decide) ?_
    exact end_z hx hb hr hlocks hS (u := ()) (r := 1) (at_end (hP.sub (ws' := [(h, .inr (6, [.ref st, .int (nI fx), .ref fl, .ref fn, .ref li, .int (nI le), .ref rc, .int (nI rn_), .int rb])), (st, .inr (3, [.ref kd, .ref it, .ref pa])), (pa, .inl (cI, 16, .inl fpa))]) [2, 0, 1] rfl) (hD.sub (ws' := [(h, .inr (6, [.ref st, .int (nI fx), .ref fl, .ref fn, .ref li, .int (nI le), .ref rc, .int (nI rn_), .int rb])), (st, .inr (3, [.ref kd, .ref it, .ref pa])), (pa, .inl (cI, 16, .inl fpa))]) [2, 0, 1] (by decide) rfl)) (⟨Or.inr rfl, ⟨fun _ => Or.inl (hp2.2.mp (by rcases hp2.1 with h9 | h9; exact absurd h9 hc3; exact h9)), fun _ => rfl⟩⟩) (by decide) (Nat.le_of_ble_eq_true rfl) (Nat.le_of_ble_eq_true rfl) d_World_isThere_41
  · refine lv_iload_n hx hb d_World_isThere_8 rfl (lv_at hl 1 rfl) ?_
    refine lv_bipush (v := 16) hx hb d_World_isThere_9 (by decide) ?_
    refine lv_icmp_lt hx hb d_World_isThere_11 (tgt := 40) (by decide) (fun hc4 => ?_) (fun hc4 => ?_)
    · refine lv_iconst (v := 0) hx hb d_World_isThere_40 (by decide) ?_
      exact end_z hx hb hr hlocks hS (u := ()) (r := 0) (at_end (hP.sub (ws' := [(h, .inr (6, [.ref st, .int (nI fx), .ref fl, .ref fn, .ref li, .int (nI le), .ref rc, .int (nI rn_), .int rb])), (st, .inr (3, [.ref kd, .ref it, .ref pa])), (pa, .inl (cI, 16, .inl fpa))]) [2, 0, 1] rfl) (hD.sub (ws' := [(h, .inr (6, [.ref st, .int (nI fx), .ref fl, .ref fn, .ref li, .int (nI le), .ref rc, .int (nI rn_), .int rb])), (st, .inr (3, [.ref kd, .ref it, .ref pa])), (pa, .inl (cI, 16, .inl fpa))]) [2, 0, 1] (by decide) rfl)) (⟨Or.inl rfl, ⟨fun h9 => absurd h9 (by decide), fun h9 => by rcases h9 with h8 | ⟨j2, a1, a2, a3, a4⟩; exact (fun h8 => absurd (hp2.2.mpr h8) (by rw [hc3]; decide)) h8; exact absurd hc4 (by rw [a3]; exact nI_nlt (a := j2) (b := 16) a1 (by omega))⟩⟩) (by decide) (Nat.le_of_ble_eq_true rfl) (Nat.le_of_ble_eq_true rfl) d_World_isThere_41
    · refine lv_iload_n hx hb d_World_isThere_14 rfl (lv_at hl 1 rfl) ?_
      refine lv_bipush (v := 32) hx hb d_World_isThere_15 (by decide) ?_
      refine lv_icmp_ge hx hb d_World_isThere_17 (tgt := 40) (by decide) (fun hc5 => ?_) (fun hc5 => ?_)
      · refine lv_iconst (v := 0) hx hb d_World_isThere_40 (by decide) ?_
        exact end_z hx hb hr hlocks hS (u := ()) (r := 0) (at_end (hP.sub (ws' := [(h, .inr (6, [.ref st, .int (nI fx), .ref fl, .ref fn, .ref li, .int (nI le), .ref rc, .int (nI rn_), .int rb])), (st, .inr (3, [.ref kd, .ref it, .ref pa])), (pa, .inl (cI, 16, .inl fpa))]) [2, 0, 1] rfl) (hD.sub (ws' := [(h, .inr (6, [.ref st, .int (nI fx), .ref fl, .ref fn, .ref li, .int (nI le), .ref rc, .int (nI rn_), .int rb])), (st, .inr (3, [.ref kd, .ref it, .ref pa])), (pa, .inl (cI, 16, .inl fpa))]) [2, 0, 1] (by decide) rfl)) (⟨Or.inl rfl, ⟨fun h9 => absurd h9 (by decide), fun h9 => by rcases h9 with h8 | ⟨j2, a1, a2, a3, a4⟩; exact (fun h8 => absurd (hp2.2.mpr h8) (by rw [hc3]; decide)) h8; exact absurd hc5 (by rw [a3]; exact nI_ge (a := j2) (b := 32) a2 (by decide))⟩⟩) (by decide) (Nat.le_of_ble_eq_true rfl) (Nat.le_of_ble_eq_true rfl) d_World_isThere_41
      · obtain ⟨j, hj16, hj32, hje⟩ := made_ix hc4 hc5
        subst hje
        refine lv_aload_n hx hb d_World_isThere_20 rfl (lv_at hl 0 rfl) ?_
        refine va_get (D := D) (ci := 6) (v := .ref st) (C := "TaleMachine$World") (T := F_World) (N := 9) hx hb hts in_World hown hK hP 2 rfl rfl 0 (by decide) (hts _ k_60) (fun _ h9 => h9) rfl d_World_isThere_21 ?_
        refine va_get (D := D) (ci := 3) (v := .ref pa) (C := "TaleMachine$State") (T := F_State) (N := 3) hx hb hts in_State hown hK hP 0 rfl rfl 2 (by decide) (hts _ k_56) (fun _ h9 => h9) rfl d_World_isThere_24 ?_
        refine lv_iload_n hx hb d_World_isThere_27 rfl (lv_at hl 1 rfl) ?_
        refine lv_bipush (v := 16) hx hb d_World_isThere_28 (by decide) ?_
        refine lv_isub hx hb d_World_isThere_30 ?_
        refine lv_topi (fun z6 hz6 => ?_)
        obtain rfl : z6 = nI (j - 16) := hz6.trans (pk_sub (a := j) (b := 16) (by omega))
        refine ia_ld hx hb hK hP 1 0 rfl rfl (k := j - 16) (by omega) (by first | decide | assumption) d_World_isThere_31 ?_
        refine lv_iconst (v := (-1)) hx hb d_World_isThere_32 (by decide) ?_
        refine lv_icmp_eq hx hb d_World_isThere_33 (tgt := 40) (by decide) (fun hc7 => ?_) (fun hc7 => ?_)
        · refine lv_iconst (v := 0) hx hb d_World_isThere_40 (by decide) ?_
          exact end_z hx hb hr hlocks hS (u := ()) (r := 0) (at_end (hP.sub (ws' := [(h, .inr (6, [.ref st, .int (nI fx), .ref fl, .ref fn, .ref li, .int (nI le), .ref rc, .int (nI rn_), .int rb])), (st, .inr (3, [.ref kd, .ref it, .ref pa])), (pa, .inl (cI, 16, .inl fpa))]) [2, 0, 1] rfl) (hD.sub (ws' := [(h, .inr (6, [.ref st, .int (nI fx), .ref fl, .ref fn, .ref li, .int (nI le), .ref rc, .int (nI rn_), .int rb])), (st, .inr (3, [.ref kd, .ref it, .ref pa])), (pa, .inl (cI, 16, .inl fpa))]) [2, 0, 1] (by decide) rfl)) (⟨Or.inl rfl, ⟨fun h9 => absurd h9 (by decide), fun h9 => by rcases h9 with h8 | ⟨j2, a1, a2, a3, a4⟩; exact (fun h8 => absurd (hp2.2.mpr h8) (by rw [hc3]; decide)) h8; exact absurd (by rw [← (nI_eq (by omega) (by omega)).mp a3]; exact hc7) a4⟩⟩) (by decide) (Nat.le_of_ble_eq_true rfl) (Nat.le_of_ble_eq_true rfl) d_World_isThere_41
        · refine lv_iconst (v := 1) hx hb d_World_isThere_36 (by decide) ?_
          refine lv_goto hx hb d_World_isThere_37 (tgt := 41) (by decide) ?_
          exact end_z hx hb hr hlocks hS (u := ()) (r := 1) (at_end (hP.sub (ws' := [(h, .inr (6, [.ref st, .int (nI fx), .ref fl, .ref fn, .ref li, .int (nI le), .ref rc, .int (nI rn_), .int rb])), (st, .inr (3, [.ref kd, .ref it, .ref pa])), (pa, .inl (cI, 16, .inl fpa))]) [2, 0, 1] rfl) (hD.sub (ws' := [(h, .inr (6, [.ref st, .int (nI fx), .ref fl, .ref fn, .ref li, .int (nI le), .ref rc, .int (nI rn_), .int rb])), (st, .inr (3, [.ref kd, .ref it, .ref pa])), (pa, .inl (cI, 16, .inl fpa))]) [2, 0, 1] (by decide) rfl)) (⟨Or.inr rfl, ⟨fun _ => Or.inr ⟨j, hj16, hj32, rfl, hc7⟩, fun _ => rfl⟩⟩) (by decide) (Nat.le_of_ble_eq_true rfl) (Nat.le_of_ble_eq_true rfl) d_World_isThere_41

set_option maxHeartbeats 4000000 in
set_option maxRecDepth 100000 in
theorem w_ownKind (l : Launch) (D : va_G) (cI cZ cJ : ClassId) (h st fl fn li rc kd it pa : Nat) (fx le rn_ : Nat) (rb : Int32) (oo pp : Nat) (fkd : Nat → Int32) (sz : Nat) (ho : oo < 32) (hp : pp < 8) : Met l y_World_ownKind (.code y_World_ownKind prog_8_method_5_code 3 (some .int) :: AW) ({ frames := 0, cells := 0, slots := 0, locals := 0 }) (va_Pc [.ref h, .int (nI oo), .int (nI pp)] (pre_ D [(h, .inr (6, [.ref st, .int (nI fx), .ref fl, .ref fn, .ref li, .int (nI le), .ref rc, .int (nI rn_), .int rb])), (st, .inr (3, [.ref kd, .ref it, .ref pa])), (kd, .inl (cI, 256, .inl fkd))] [(cI, .int), (cZ, .boolean), (cJ, .long)] sz)) (va_Qi (fun (r : Int32) (u : Unit) => r = fkd (oo * 8 + pp)) (fun _ t => post_ D (va_A [(h, .inr (6, [.ref st, .int (nI fx), .ref fl, .ref fn, .ref li, .int (nI le), .ref rc, .int (nI rn_), .int rb])), (st, .inr (3, [.ref kd, .ref it, .ref pa])), (kd, .inl (cI, 256, .inl fkd))] sz) [(h, .inr (6, [.ref st, .int (nI fx), .ref fl, .ref fn, .ref li, .int (nI le), .ref rc, .int (nI rn_), .int rb])), (st, .inr (3, [.ref kd, .ref it, .ref pa])), (kd, .inl (cI, 256, .inl fkd))] t) (va_A [(h, .inr (6, [.ref st, .int (nI fx), .ref fl, .ref fn, .ref li, .int (nI le), .ref rc, .int (nI rn_), .int rb])), (st, .inr (3, [.ref kd, .ref it, .ref pa])), (kd, .inl (cI, 256, .inl fkd))] sz)) 0 0 (va_A [(h, .inr (6, [.ref st, .int (nI fx), .ref fl, .ref fn, .ref li, .int (nI le), .ref rc, .int (nI rn_), .int rb])), (st, .inr (3, [.ref kd, .ref it, .ref pa])), (kd, .inl (cI, 256, .inl fkd))] sz) := by
  refine Met.ofW (cc := prog_8_method_5_code) (maxL := 3) (ret := (some .int)) (by decide) rfl ?_
  intro p e s m args below meth c s₁ B hml hv
  obtain ⟨rfl, rfl, hP, hK, hD0, hT⟩ := hv
  have hx := B.exec
  have hb := B.bytes
  have hr := B.returns
  have hts0 := atoms_spec (ws := .code y_World_ownKind prog_8_method_5_code 3 (some .int) :: AW) B.pre
  have hts : ∀ w ∈ AW, w.before [.ref h, .int (nI oo), .int (nI pp)].toArray s = true := fun w h => hts0 w (List.mem_cons_of_mem _ h)
  have hown : s.vm.findClass "TaleMachine$World" = some m.cls := findClass_of_methodNamed B.named
  have hlocks := B.notSynchronized
  have hD := hD0.self (sz := s.heap.size)
  generalize hAe : va_A [(h, .inr (6, [.ref st, .int (nI fx), .ref fl, .ref fn, .ref li, .int (nI le), .ref rc, .int (nI rn_), .int rb])), (st, .inr (3, [.ref kd, .ref it, .ref pa])), (kd, .inl (cI, 256, .inl fkd))] s.heap.size = A at hD ⊢
  have hA : ∀ q : Nat, s.heap.size ≤ q → A q := fun q h => by rw [← hAe]; exact Or.inr h
  have hS : va_S A s.heap s.heap [] := va_S.rf
  have hl := lv_entry ([.ref h, .int (nI oo), .int (nI pp)]) (n := 3) (Nat.le_of_ble_eq_true rfl)
  rw [lg_entry_eq]
  generalize (lg_sl ([.ref h, .int (nI oo), .int (nI pp)]) ++ List.replicate (3 - (lg_sl ([.ref h, .int (nI oo), .int (nI pp)])).length) Slot.unset).toArray = ls at hl ⊢
  have hl : lv_has ls 3 [(0, .ref h), (1, .int (nI oo)), (2, .int (nI pp))] := hl
  refine lv_aload_n hx hb d_World_ownKind_0 rfl (lv_at hl 0 rfl) ?_
  refine va_get (D := D) (ci := 6) (v := .ref st) (C := "TaleMachine$World") (T := F_World) (N := 9) hx hb hts in_World hown hK hP 0 rfl rfl 0 (by decide) (hts _ k_60) (fun _ h9 => h9) rfl d_World_ownKind_1 ?_
  refine va_get (D := D) (ci := 3) (v := .ref kd) (C := "TaleMachine$State") (T := F_State) (N := 3) hx hb hts in_State hown hK hP 1 rfl rfl 0 (by decide) (hts _ k_52) (fun _ h9 => h9) rfl d_World_ownKind_4 ?_
  refine lv_iload_n hx hb d_World_ownKind_7 rfl (lv_at hl 1 rfl) ?_
  refine lv_bipush (v := 8) hx hb d_World_ownKind_8 (by decide) ?_
  refine lv_imul hx hb d_World_ownKind_10 ?_
  refine lv_topi (fun z1 hz1 => ?_)
  obtain rfl : z1 = nI (oo * 8) := hz1.trans (pk_mul oo 8)
  refine lv_iload_n hx hb d_World_ownKind_11 rfl (lv_at hl 2 rfl) ?_
  refine lv_iadd hx hb d_World_ownKind_12 ?_
  refine lv_topi (fun z2 hz2 => ?_)
  obtain rfl : z2 = nI ((oo * 8) + pp) := hz2.trans (nI_add (oo * 8) pp)
  refine ia_ld hx hb hK hP 2 0 rfl rfl (k := (oo * 8) + pp) (by omega) (by first | decide | assumption) d_World_ownKind_13 ?_
  exact end_i hx hb hr hlocks hS (u := ()) (r := (fkd ((oo * 8) + pp))) (at_end (hP.sub (ws' := [(h, .inr (6, [.ref st, .int (nI fx), .ref fl, .ref fn, .ref li, .int (nI le), .ref rc, .int (nI rn_), .int rb])), (st, .inr (3, [.ref kd, .ref it, .ref pa])), (kd, .inl (cI, 256, .inl fkd))]) [0, 1, 2] rfl) (hD.sub (ws' := [(h, .inr (6, [.ref st, .int (nI fx), .ref fl, .ref fn, .ref li, .int (nI le), .ref rc, .int (nI rn_), .int rb])), (st, .inr (3, [.ref kd, .ref it, .ref pa])), (kd, .inl (cI, 256, .inl fkd))]) [0, 1, 2] (by decide) rfl)) (rfl) (Nat.le_of_ble_eq_true rfl) (Nat.le_of_ble_eq_true rfl) d_World_ownKind_14

set_option maxHeartbeats 4000000 in
set_option maxRecDepth 100000 in
theorem w_ownInt (l : Launch) (D : va_G) (cI cZ cJ : ClassId) (h st fl fn li rc kd it pa : Nat) (fx le rn_ : Nat) (rb : Int32) (oo pp : Nat) (fit : Nat → Int32) (sz : Nat) (ho : oo < 32) (hp : pp < 8) : Met l y_World_ownInt (.code y_World_ownInt prog_8_method_6_code 3 (some .int) :: AW) ({ frames := 0, cells := 0, slots := 0, locals := 0 }) (va_Pc [.ref h, .int (nI oo), .int (nI pp)] (pre_ D [(h, .inr (6, [.ref st, .int (nI fx), .ref fl, .ref fn, .ref li, .int (nI le), .ref rc, .int (nI rn_), .int rb])), (st, .inr (3, [.ref kd, .ref it, .ref pa])), (it, .inl (cI, 256, .inl fit))] [(cI, .int), (cZ, .boolean), (cJ, .long)] sz)) (va_Qi (fun (r : Int32) (u : Unit) => r = fit (oo * 8 + pp)) (fun _ t => post_ D (va_A [(h, .inr (6, [.ref st, .int (nI fx), .ref fl, .ref fn, .ref li, .int (nI le), .ref rc, .int (nI rn_), .int rb])), (st, .inr (3, [.ref kd, .ref it, .ref pa])), (it, .inl (cI, 256, .inl fit))] sz) [(h, .inr (6, [.ref st, .int (nI fx), .ref fl, .ref fn, .ref li, .int (nI le), .ref rc, .int (nI rn_), .int rb])), (st, .inr (3, [.ref kd, .ref it, .ref pa])), (it, .inl (cI, 256, .inl fit))] t) (va_A [(h, .inr (6, [.ref st, .int (nI fx), .ref fl, .ref fn, .ref li, .int (nI le), .ref rc, .int (nI rn_), .int rb])), (st, .inr (3, [.ref kd, .ref it, .ref pa])), (it, .inl (cI, 256, .inl fit))] sz)) 0 0 (va_A [(h, .inr (6, [.ref st, .int (nI fx), .ref fl, .ref fn, .ref li, .int (nI le), .ref rc, .int (nI rn_), .int rb])), (st, .inr (3, [.ref kd, .ref it, .ref pa])), (it, .inl (cI, 256, .inl fit))] sz) := by
  refine Met.ofW (cc := prog_8_method_6_code) (maxL := 3) (ret := (some .int)) (by decide) rfl ?_
  intro p e s m args below meth c s₁ B hml hv
  obtain ⟨rfl, rfl, hP, hK, hD0, hT⟩ := hv
  have hx := B.exec
  have hb := B.bytes
  have hr := B.returns
  have hts0 := atoms_spec (ws := .code y_World_ownInt prog_8_method_6_code 3 (some .int) :: AW) B.pre
  have hts : ∀ w ∈ AW, w.before [.ref h, .int (nI oo), .int (nI pp)].toArray s = true := fun w h => hts0 w (List.mem_cons_of_mem _ h)
  have hown : s.vm.findClass "TaleMachine$World" = some m.cls := findClass_of_methodNamed B.named
  have hlocks := B.notSynchronized
  have hD := hD0.self (sz := s.heap.size)
  generalize hAe : va_A [(h, .inr (6, [.ref st, .int (nI fx), .ref fl, .ref fn, .ref li, .int (nI le), .ref rc, .int (nI rn_), .int rb])), (st, .inr (3, [.ref kd, .ref it, .ref pa])), (it, .inl (cI, 256, .inl fit))] s.heap.size = A at hD ⊢
  have hA : ∀ q : Nat, s.heap.size ≤ q → A q := fun q h => by rw [← hAe]; exact Or.inr h
  have hS : va_S A s.heap s.heap [] := va_S.rf
  have hl := lv_entry ([.ref h, .int (nI oo), .int (nI pp)]) (n := 3) (Nat.le_of_ble_eq_true rfl)
  rw [lg_entry_eq]
  generalize (lg_sl ([.ref h, .int (nI oo), .int (nI pp)]) ++ List.replicate (3 - (lg_sl ([.ref h, .int (nI oo), .int (nI pp)])).length) Slot.unset).toArray = ls at hl ⊢
  have hl : lv_has ls 3 [(0, .ref h), (1, .int (nI oo)), (2, .int (nI pp))] := hl
  refine lv_aload_n hx hb d_World_ownInt_0 rfl (lv_at hl 0 rfl) ?_
  refine va_get (D := D) (ci := 6) (v := .ref st) (C := "TaleMachine$World") (T := F_World) (N := 9) hx hb hts in_World hown hK hP 0 rfl rfl 0 (by decide) (hts _ k_60) (fun _ h9 => h9) rfl d_World_ownInt_1 ?_
  refine va_get (D := D) (ci := 3) (v := .ref it) (C := "TaleMachine$State") (T := F_State) (N := 3) hx hb hts in_State hown hK hP 1 rfl rfl 1 (by decide) (hts _ k_54) (fun _ h9 => h9) rfl d_World_ownInt_4 ?_
  refine lv_iload_n hx hb d_World_ownInt_7 rfl (lv_at hl 1 rfl) ?_
  refine lv_bipush (v := 8) hx hb d_World_ownInt_8 (by decide) ?_
  refine lv_imul hx hb d_World_ownInt_10 ?_
  refine lv_topi (fun z1 hz1 => ?_)
  obtain rfl : z1 = nI (oo * 8) := hz1.trans (pk_mul oo 8)
  refine lv_iload_n hx hb d_World_ownInt_11 rfl (lv_at hl 2 rfl) ?_
  refine lv_iadd hx hb d_World_ownInt_12 ?_
  refine lv_topi (fun z2 hz2 => ?_)
  obtain rfl : z2 = nI ((oo * 8) + pp) := hz2.trans (nI_add (oo * 8) pp)
  refine ia_ld hx hb hK hP 2 0 rfl rfl (k := (oo * 8) + pp) (by omega) (by first | decide | assumption) d_World_ownInt_13 ?_
  exact end_i hx hb hr hlocks hS (u := ()) (r := (fit ((oo * 8) + pp))) (at_end (hP.sub (ws' := [(h, .inr (6, [.ref st, .int (nI fx), .ref fl, .ref fn, .ref li, .int (nI le), .ref rc, .int (nI rn_), .int rb])), (st, .inr (3, [.ref kd, .ref it, .ref pa])), (it, .inl (cI, 256, .inl fit))]) [0, 1, 2] rfl) (hD.sub (ws' := [(h, .inr (6, [.ref st, .int (nI fx), .ref fl, .ref fn, .ref li, .int (nI le), .ref rc, .int (nI rn_), .int rb])), (st, .inr (3, [.ref kd, .ref it, .ref pa])), (it, .inl (cI, 256, .inl fit))]) [0, 1, 2] (by decide) rfl)) (rfl) (Nat.le_of_ble_eq_true rfl) (Nat.le_of_ble_eq_true rfl) d_World_ownInt_14

set_option maxHeartbeats 4000000 in
set_option maxRecDepth 100000 in
theorem w_setOwn (l : Launch) (D : va_G) (cI cZ cJ : ClassId) (h st fl fn li rc kd it pa : Nat) (fx le rn_ : Nat) (rb : Int32) (oo pp : Nat) (k1 v1 : Int32) (fkd fit : Nat → Int32) (sz : Nat) (ho : oo < 32) (hp : pp < 8) : Met l y_World_setOwn (.code y_World_setOwn prog_8_method_7_code 5 none :: AW) ({ frames := 0, cells := 0, slots := 0, locals := 0 }) (va_Pc [.ref h, .int (nI oo), .int (nI pp), .int k1, .int v1] (pre_ D [(h, .inr (6, [.ref st, .int (nI fx), .ref fl, .ref fn, .ref li, .int (nI le), .ref rc, .int (nI rn_), .int rb])), (st, .inr (3, [.ref kd, .ref it, .ref pa])), (kd, .inl (cI, 256, .inl fkd)), (it, .inl (cI, 256, .inl fit))] [(cI, .int), (cZ, .boolean), (cJ, .long)] sz)) (va_Qv (fun (u : Unit) => True) (fun _ t => post_ D (va_A [(h, .inr (6, [.ref st, .int (nI fx), .ref fl, .ref fn, .ref li, .int (nI le), .ref rc, .int (nI rn_), .int rb])), (st, .inr (3, [.ref kd, .ref it, .ref pa])), (kd, .inl (cI, 256, .inl fkd)), (it, .inl (cI, 256, .inl fit))] sz) [(h, .inr (6, [.ref st, .int (nI fx), .ref fl, .ref fn, .ref li, .int (nI le), .ref rc, .int (nI rn_), .int rb])), (st, .inr (3, [.ref kd, .ref it, .ref pa])), (kd, .inl (cI, 256, .inl (upd fkd ((oo * 8) + pp) k1))), (it, .inl (cI, 256, .inl (upd fit ((oo * 8) + pp) v1)))] t) (va_A [(h, .inr (6, [.ref st, .int (nI fx), .ref fl, .ref fn, .ref li, .int (nI le), .ref rc, .int (nI rn_), .int rb])), (st, .inr (3, [.ref kd, .ref it, .ref pa])), (kd, .inl (cI, 256, .inl fkd)), (it, .inl (cI, 256, .inl fit))] sz)) 0 0 (va_A [(h, .inr (6, [.ref st, .int (nI fx), .ref fl, .ref fn, .ref li, .int (nI le), .ref rc, .int (nI rn_), .int rb])), (st, .inr (3, [.ref kd, .ref it, .ref pa])), (kd, .inl (cI, 256, .inl fkd)), (it, .inl (cI, 256, .inl fit))] sz) := by
  refine Met.ofW (cc := prog_8_method_7_code) (maxL := 5) (ret := none) (by decide) rfl ?_
  intro p e s m args below meth c s₁ B hml hv
  obtain ⟨rfl, rfl, hP, hK, hD0, hT⟩ := hv
  have hx := B.exec
  have hb := B.bytes
  have hr := B.returns
  have hts0 := atoms_spec (ws := .code y_World_setOwn prog_8_method_7_code 5 none :: AW) B.pre
  have hts : ∀ w ∈ AW, w.before [.ref h, .int (nI oo), .int (nI pp), .int k1, .int v1].toArray s = true := fun w h => hts0 w (List.mem_cons_of_mem _ h)
  have hown : s.vm.findClass "TaleMachine$World" = some m.cls := findClass_of_methodNamed B.named
  have hlocks := B.notSynchronized
  have hD := hD0.self (sz := s.heap.size)
  generalize hAe : va_A [(h, .inr (6, [.ref st, .int (nI fx), .ref fl, .ref fn, .ref li, .int (nI le), .ref rc, .int (nI rn_), .int rb])), (st, .inr (3, [.ref kd, .ref it, .ref pa])), (kd, .inl (cI, 256, .inl fkd)), (it, .inl (cI, 256, .inl fit))] s.heap.size = A at hD ⊢
  have hA : ∀ q : Nat, s.heap.size ≤ q → A q := fun q h => by rw [← hAe]; exact Or.inr h
  have hS : va_S A s.heap s.heap [] := va_S.rf
  have hl := lv_entry ([.ref h, .int (nI oo), .int (nI pp), .int k1, .int v1]) (n := 5) (Nat.le_of_ble_eq_true rfl)
  rw [lg_entry_eq]
  generalize (lg_sl ([.ref h, .int (nI oo), .int (nI pp), .int k1, .int v1]) ++ List.replicate (5 - (lg_sl ([.ref h, .int (nI oo), .int (nI pp), .int k1, .int v1])).length) Slot.unset).toArray = ls at hl ⊢
  have hl : lv_has ls 5 [(0, .ref h), (1, .int (nI oo)), (2, .int (nI pp)), (3, .int k1), (4, .int v1)] := hl
  refine lv_aload_n hx hb d_World_setOwn_0 rfl (lv_at hl 0 rfl) ?_
  refine va_get (D := D) (ci := 6) (v := .ref st) (C := "TaleMachine$World") (T := F_World) (N := 9) hx hb hts in_World hown hK hP 0 rfl rfl 0 (by decide) (hts _ k_60) (fun _ h9 => h9) rfl d_World_setOwn_1 ?_
  refine va_get (D := D) (ci := 3) (v := .ref kd) (C := "TaleMachine$State") (T := F_State) (N := 3) hx hb hts in_State hown hK hP 1 rfl rfl 0 (by decide) (hts _ k_52) (fun _ h9 => h9) rfl d_World_setOwn_4 ?_
  refine lv_iload_n hx hb d_World_setOwn_7 rfl (lv_at hl 1 rfl) ?_
  refine lv_bipush (v := 8) hx hb d_World_setOwn_8 (by decide) ?_
  refine lv_imul hx hb d_World_setOwn_10 ?_
  refine lv_topi (fun z1 hz1 => ?_)
  obtain rfl : z1 = nI (oo * 8) := hz1.trans (pk_mul oo 8)
  refine lv_iload_n hx hb d_World_setOwn_11 rfl (lv_at hl 2 rfl) ?_
  refine lv_iadd hx hb d_World_setOwn_12 ?_
  refine lv_topi (fun z2 hz2 => ?_)
  obtain rfl : z2 = nI ((oo * 8) + pp) := hz2.trans (nI_add (oo * 8) pp)
  refine lv_iload_n hx hb d_World_setOwn_13 rfl (lv_at hl 3 rfl) ?_
  refine ia_st hx hb hK hP hD hS 2 0 rfl rfl (k := (oo * 8) + pp) (x := k1) (by omega) (by first | decide | assumption) d_World_setOwn_14 (fun H locs hP hD hS => ?_)
  have hP : va_P D cL [(h, .inr (6, [.ref st, .int (nI fx), .ref fl, .ref fn, .ref li, .int (nI le), .ref rc, .int (nI rn_), .int rb])), (st, .inr (3, [.ref kd, .ref it, .ref pa])), (kd, .inl (cI, 256, .inl (upd fkd ((oo * 8) + pp) k1))), (it, .inl (cI, 256, .inl fit))] H := hP
  have hD : va_D A [(h, .inr (6, [.ref st, .int (nI fx), .ref fl, .ref fn, .ref li, .int (nI le), .ref rc, .int (nI rn_), .int rb])), (st, .inr (3, [.ref kd, .ref it, .ref pa])), (kd, .inl (cI, 256, .inl (upd fkd ((oo * 8) + pp) k1))), (it, .inl (cI, 256, .inl fit))] := hD
  refine lv_aload_n hx hb d_World_setOwn_15 rfl (lv_at hl 0 rfl) ?_
  refine va_get (D := D) (ci := 6) (v := .ref st) (C := "TaleMachine$World") (T := F_World) (N := 9) hx hb hts in_World hown hK hP 0 rfl rfl 0 (by decide) (hts _ k_60) (fun _ h9 => h9) rfl d_World_setOwn_16 ?_
  refine va_get (D := D) (ci := 3) (v := .ref it) (C := "TaleMachine$State") (T := F_State) (N := 3) hx hb hts in_State hown hK hP 1 rfl rfl 1 (by decide) (hts _ k_54) (fun _ h9 => h9) rfl d_World_setOwn_19 ?_
  refine lv_iload_n hx hb d_World_setOwn_22 rfl (lv_at hl 1 rfl) ?_
  refine lv_bipush (v := 8) hx hb d_World_setOwn_23 (by decide) ?_
  refine lv_imul hx hb d_World_setOwn_25 ?_
  refine lv_topi (fun z3 hz3 => ?_)
  obtain rfl : z3 = nI (oo * 8) := hz3.trans (pk_mul oo 8)
  refine lv_iload_n hx hb d_World_setOwn_26 rfl (lv_at hl 2 rfl) ?_
  refine lv_iadd hx hb d_World_setOwn_27 ?_
  refine lv_topi (fun z4 hz4 => ?_)
  obtain rfl : z4 = nI ((oo * 8) + pp) := hz4.trans (nI_add (oo * 8) pp)
  refine lv_iload hx hb d_World_setOwn_28 (lv_at hl 4 rfl) ?_
  refine ia_st hx hb hK hP hD hS 3 0 rfl rfl (k := (oo * 8) + pp) (x := v1) (by omega) (by first | decide | assumption) d_World_setOwn_30 (fun H locs hP hD hS => ?_)
  have hP : va_P D cL [(h, .inr (6, [.ref st, .int (nI fx), .ref fl, .ref fn, .ref li, .int (nI le), .ref rc, .int (nI rn_), .int rb])), (st, .inr (3, [.ref kd, .ref it, .ref pa])), (kd, .inl (cI, 256, .inl (upd fkd ((oo * 8) + pp) k1))), (it, .inl (cI, 256, .inl (upd fit ((oo * 8) + pp) v1)))] H := hP
  have hD : va_D A [(h, .inr (6, [.ref st, .int (nI fx), .ref fl, .ref fn, .ref li, .int (nI le), .ref rc, .int (nI rn_), .int rb])), (st, .inr (3, [.ref kd, .ref it, .ref pa])), (kd, .inl (cI, 256, .inl (upd fkd ((oo * 8) + pp) k1))), (it, .inl (cI, 256, .inl (upd fit ((oo * 8) + pp) v1)))] := hD
  exact end_v hx hb hr hlocks hS (u := ()) (at_end (hP.sub (ws' := [(h, .inr (6, [.ref st, .int (nI fx), .ref fl, .ref fn, .ref li, .int (nI le), .ref rc, .int (nI rn_), .int rb])), (st, .inr (3, [.ref kd, .ref it, .ref pa])), (kd, .inl (cI, 256, .inl (upd fkd ((oo * 8) + pp) k1))), (it, .inl (cI, 256, .inl (upd fit ((oo * 8) + pp) v1)))]) [0, 1, 2, 3] rfl) (hD.sub (ws' := [(h, .inr (6, [.ref st, .int (nI fx), .ref fl, .ref fn, .ref li, .int (nI le), .ref rc, .int (nI rn_), .int rb])), (st, .inr (3, [.ref kd, .ref it, .ref pa])), (kd, .inl (cI, 256, .inl (upd fkd ((oo * 8) + pp) k1))), (it, .inl (cI, 256, .inl (upd fit ((oo * 8) + pp) v1)))]) [0, 1, 2, 3] (by decide) rfl)) (trivial) (Nat.le_of_ble_eq_true rfl) (Nat.le_of_ble_eq_true rfl) d_World_setOwn_31

set_option maxHeartbeats 4000000 in
set_option maxRecDepth 100000 in
theorem w_forget (l : Launch) (D : va_G) (cI cZ cJ : ClassId) (h st fl fn li rc kd it pa : Nat) (fx le rn_ : Nat) (rb : Int32) (sz : Nat)  : Met l y_World_forgetReached (.code y_World_forgetReached prog_8_method_18_code 1 none :: AW) ({ frames := 0, cells := 0, slots := 0, locals := 0 }) (va_Pc [.ref h] (pre_ D [(h, .inr (6, [.ref st, .int (nI fx), .ref fl, .ref fn, .ref li, .int (nI le), .ref rc, .int (nI rn_), .int rb]))] [(cI, .int), (cZ, .boolean), (cJ, .long)] sz)) (va_Qv (fun (u : Unit) => True) (fun _ t => post_ D (va_A [(h, .inr (6, [.ref st, .int (nI fx), .ref fl, .ref fn, .ref li, .int (nI le), .ref rc, .int (nI rn_), .int rb]))] sz) [(h, .inr (6, [.ref st, .int (nI fx), .ref fl, .ref fn, .ref li, .int (nI le), .ref rc, .int 0, .int 0]))] t) (va_A [(h, .inr (6, [.ref st, .int (nI fx), .ref fl, .ref fn, .ref li, .int (nI le), .ref rc, .int (nI rn_), .int rb]))] sz)) 0 0 (va_A [(h, .inr (6, [.ref st, .int (nI fx), .ref fl, .ref fn, .ref li, .int (nI le), .ref rc, .int (nI rn_), .int rb]))] sz) := by
  refine Met.ofW (cc := prog_8_method_18_code) (maxL := 1) (ret := none) (by decide) rfl ?_
  intro p e s m args below meth c s₁ B hml hv
  obtain ⟨rfl, rfl, hP, hK, hD0, hT⟩ := hv
  have hx := B.exec
  have hb := B.bytes
  have hr := B.returns
  have hts0 := atoms_spec (ws := .code y_World_forgetReached prog_8_method_18_code 1 none :: AW) B.pre
  have hts : ∀ w ∈ AW, w.before [.ref h].toArray s = true := fun w h => hts0 w (List.mem_cons_of_mem _ h)
  have hown : s.vm.findClass "TaleMachine$World" = some m.cls := findClass_of_methodNamed B.named
  have hlocks := B.notSynchronized
  have hD := hD0.self (sz := s.heap.size)
  generalize hAe : va_A [(h, .inr (6, [.ref st, .int (nI fx), .ref fl, .ref fn, .ref li, .int (nI le), .ref rc, .int (nI rn_), .int rb]))] s.heap.size = A at hD ⊢
  have hA : ∀ q : Nat, s.heap.size ≤ q → A q := fun q h => by rw [← hAe]; exact Or.inr h
  have hS : va_S A s.heap s.heap [] := va_S.rf
  have hl := lv_entry ([.ref h]) (n := 1) (Nat.le_of_ble_eq_true rfl)
  rw [lg_entry_eq]
  generalize (lg_sl ([.ref h]) ++ List.replicate (1 - (lg_sl ([.ref h])).length) Slot.unset).toArray = ls at hl ⊢
  have hl : lv_has ls 1 [(0, .ref h)] := hl
  refine lv_aload_n hx hb d_World_forgetReached_0 rfl (lv_at hl 0 rfl) ?_
  refine lv_iconst (v := 0) hx hb d_World_forgetReached_1 (by decide) ?_
  refine va_put (D := D) (ci := 6) (v := .int 0) (ty := .int) (C := "TaleMachine$World") (T := F_World) (N := 9) hx hb hts in_World t_World t_World_ok n_World hown hK hP hD hS 0 rfl rfl 7 (by decide) (hts _ k_69) (fun _ h9 => h9) rfl (by decide +kernel) rfl rfl (Nat.le_of_ble_eq_true rfl) d_World_forgetReached_2 (fun H locs hP hD hS => ?_)
  have hP : va_P D cL [(h, .inr (6, [.ref st, .int (nI fx), .ref fl, .ref fn, .ref li, .int (nI le), .ref rc, .int 0, .int rb]))] H := hP
  have hD : va_D A [(h, .inr (6, [.ref st, .int (nI fx), .ref fl, .ref fn, .ref li, .int (nI le), .ref rc, .int 0, .int rb]))] := hD
  refine lv_aload_n hx hb d_World_forgetReached_5 rfl (lv_at hl 0 rfl) ?_
  refine lv_iconst (v := 0) hx hb d_World_forgetReached_6 (by decide) ?_
  refine va_put (D := D) (ci := 6) (v := .int 0) (ty := .int) (C := "TaleMachine$World") (T := F_World) (N := 9) hx hb hts in_World t_World t_World_ok n_World hown hK hP hD hS 0 rfl rfl 8 (by decide) (hts _ k_70) (fun _ h9 => h9) rfl (by decide +kernel) rfl rfl (Nat.le_of_ble_eq_true rfl) d_World_forgetReached_7 (fun H locs hP hD hS => ?_)
  have hP : va_P D cL [(h, .inr (6, [.ref st, .int (nI fx), .ref fl, .ref fn, .ref li, .int (nI le), .ref rc, .int 0, .int 0]))] H := hP
  have hD : va_D A [(h, .inr (6, [.ref st, .int (nI fx), .ref fl, .ref fn, .ref li, .int (nI le), .ref rc, .int 0, .int 0]))] := hD
  exact end_v hx hb hr hlocks hS (u := ()) (at_end (hP.sub (ws' := [(h, .inr (6, [.ref st, .int (nI fx), .ref fl, .ref fn, .ref li, .int (nI le), .ref rc, .int 0, .int 0]))]) [0] rfl) (hD.sub (ws' := [(h, .inr (6, [.ref st, .int (nI fx), .ref fl, .ref fn, .ref li, .int (nI le), .ref rc, .int 0, .int 0]))]) [0] (by decide) rfl)) (trivial) (Nat.le_of_ble_eq_true rfl) (Nat.le_of_ble_eq_true rfl) d_World_forgetReached_10
