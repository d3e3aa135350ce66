set_option maxHeartbeats 4000000 in
set_option maxRecDepth 100000 in
theorem y_isThere (l : Launch) (D : va_G) (cI cZ cJ : ClassId) (h st fl fn li rc kd it pa : Nat) (fx le rn_ : Nat) (rb : Int32) (oo : Int32) (fpa ffl ffn : Nat → Int32) (f_ : Nat → Int32) (sz : Nat) (hc : CW f_ fx ffl ffn fpa) : Met l y_World_isThere (.code y_World_isThere prog_8_method_3_code 2 (some .boolean) :: AW) ({ frames := 1, cells := 0, slots := 0, locals := 21 }) (va_Pc [.ref h, .int oo] (pre_ D [(h, .inr (6, [.ref st, .int (nI fx), .ref fl, .ref fn, .ref li, .int (nI le), .ref rc, .int (nI rn_), .int rb])), (st, .inr (3, [.ref kd, .ref it, .ref pa])), (pa, .inl (cI, 16, .inl fpa))] [(cI, .int), (cZ, .boolean), (cJ, .long)] sz)) (va_Qi (fun (r : Int32) (u : Unit) => r = bI (TH f_ oo)) (fun _ t => post_ D (va_A [(h, .inr (6, [.ref st, .int (nI fx), .ref fl, .ref fn, .ref li, .int (nI le), .ref rc, .int (nI rn_), .int rb])), (st, .inr (3, [.ref kd, .ref it, .ref pa])), (pa, .inl (cI, 16, .inl fpa))] sz) [(h, .inr (6, [.ref st, .int (nI fx), .ref fl, .ref fn, .ref li, .int (nI le), .ref rc, .int (nI rn_), .int rb])), (st, .inr (3, [.ref kd, .ref it, .ref pa])), (pa, .inl (cI, 16, .inl fpa))] t) (va_A [(h, .inr (6, [.ref st, .int (nI fx), .ref fl, .ref fn, .ref li, .int (nI le), .ref rc, .int (nI rn_), .int rb])), (st, .inr (3, [.ref kd, .ref it, .ref pa])), (pa, .inl (cI, 16, .inl fpa))] sz)) 0 0 (va_A [(h, .inr (6, [.ref st, .int (nI fx), .ref fl, .ref fn, .ref li, .int (nI le), .ref rc, .int (nI rn_), .int rb])), (st, .inr (3, [.ref kd, .ref it, .ref pa])), (pa, .inl (cI, 16, .inl fpa))] sz) := by
  refine Met.ofW (cc := prog_8_method_3_code) (maxL := 2) (ret := (some .boolean)) (by decide) rfl ?_
  intro p e s m args below meth c s₁ B hml hv
  obtain ⟨rfl, rfl, hP, hK, hD0, hT⟩ := hv
  have hx := B.exec
  have hb := B.bytes
  have hr := B.returns
  have hts0 := atoms_spec (ws := .code y_World_isThere prog_8_method_3_code 2 (some .boolean) :: AW) B.pre
  have hts : ∀ w ∈ AW, w.before [.ref h, .int oo].toArray s = true := fun w h => hts0 w (List.mem_cons_of_mem _ h)
  have hown : s.vm.findClass "TaleMachine$World" = some m.cls := findClass_of_methodNamed B.named
  have hlocks := B.notSynchronized
  have hD := hD0.self (sz := s.heap.size)
  generalize hAe : va_A [(h, .inr (6, [.ref st, .int (nI fx), .ref fl, .ref fn, .ref li, .int (nI le), .ref rc, .int (nI rn_), .int rb])), (st, .inr (3, [.ref kd, .ref it, .ref pa])), (pa, .inl (cI, 16, .inl fpa))] s.heap.size = A at hD ⊢
  have hA : ∀ q : Nat, s.heap.size ≤ q → A q := fun q h => by rw [← hAe]; exact Or.inr h
  have hS : va_S A s.heap s.heap [] := va_S.rf
  have hl := lv_entry ([.ref h, .int oo]) (n := 2) (Nat.le_of_ble_eq_true rfl)
  rw [lg_entry_eq]
  generalize (lg_sl ([.ref h, .int oo]) ++ List.replicate (2 - (lg_sl ([.ref h, .int oo])).length) Slot.unset).toArray = ls at hl ⊢
  have hl : lv_has ls 2 [(0, .ref h), (1, .int oo)] := hl
  have hfx := hc.2.1
  refine lv_aload_n hx hb d_World_isThere_0 rfl (lv_at hl 0 rfl) ?_
  refine lv_iload_n hx hb d_World_isThere_1 rfl (lv_at hl 1 rfl) ?_
  refine mv_i (va_runV (C := "TaleMachine$World") (As := [.int oo]) (rest := []) ⟨hx, hb, hml, hown, hts⟩ (w_isFixed l D cI cZ cJ h st fl fn li rc 0 0 0 fx le rn_ rb oo _ (by first | assumption | omega | decide)) (cwV 1 hts (gInV k_235 k_236 k_237 k_3 k_238) rfl rfl rfl (by decide +kernel) ⟨Nat.le_of_ble_eq_true rfl, Nat.le_of_ble_eq_true rfl⟩) (pre_V (va_recv hK hP (q := ("TaleMachine$World", F_World, 9)) rfl (q0 := 0) rfl) (hP.sub [0] rfl) (hK.sub [0, 1, 2] rfl) (hD.sub [0] (by decide) rfl) hT) rfl rfl hl.1 rfl (lv_room (Nat.le_of_ble_eq_true rfl)) d_World_isThere_2 ⟨Nat.le_of_ble_eq_true rfl, Nat.le_of_ble_eq_true rfl⟩) hP hD hS hA [0] [1, 2] rfl rfl (by decide) (by decide) (wr := [(st, .inr (3, [.ref kd, .ref it, .ref pa])), (pa, .inl (cI, 16, .inl fpa))]) (wn := fun _ => [(h, .inr (6, [.ref st, .int (nI fx), .ref fl, .ref fn, .ref li, .int (nI le), .ref rc, .int (nI rn_), .int rb]))]) (fun _ _ h9 => h9) (fun r1 _ H locs hp2 hP hD hS => ?_)
  have hP : va_P D cL [(st, .inr (3, [.ref kd, .ref it, .ref pa])), (pa, .inl (cI, 16, .inl fpa)), (h, .inr (6, [.ref st, .int (nI fx), .ref fl, .ref fn, .ref li, .int (nI le), .ref rc, .int (nI rn_), .int rb]))] H := hP
  have hD : va_D A [(st, .inr (3, [.ref kd, .ref it, .ref pa])), (pa, .inl (cI, 16, .inl fpa)), (h, .inr (6, [.ref st, .int (nI fx), .ref fl, .ref fn, .ref li, .int (nI le), .ref rc, .int (nI rn_), .int rb]))] := hD
  refine lv_if_ne hx hb d_World_isThere_5 (tgt := 36) (by decide) (fun hc3 => ?_) (fun hc3 => ?_)
  · refine lv_iconst (v := 1) hx hb d_World_isThere_36 (by decide) ?_
    refine lv_goto hx hb d_World_isThere_37 (tgt := 41) (by decide) ?_
    exact end_z hx hb hr hlocks hS (u := ()) (r := 1) (at_end (hP.sub (ws' := [(h, .inr (6, [.ref st, .int (nI fx), .ref fl, .ref fn, .ref li, .int (nI le), .ref rc, .int (nI rn_), .int rb])), (st, .inr (3, [.ref kd, .ref it, .ref pa])), (pa, .inl (cI, 16, .inl fpa))]) [2, 0, 1] rfl) (hD.sub (ws' := [(h, .inr (6, [.ref st, .int (nI fx), .ref fl, .ref fn, .ref li, .int (nI le), .ref rc, .int (nI rn_), .int rb])), (st, .inr (3, [.ref kd, .ref it, .ref pa])), (pa, .inl (cI, 16, .inl fpa))]) [2, 0, 1] (by decide) rfl)) ((bI_p (hc.there.mp (Or.inl (hp2.2.mp (by rcases hp2.1 with h9 | h9; exact absurd h9 hc3; exact h9))))).symm) (by first | exact bI_z | decide | assumption) (Nat.le_of_ble_eq_true rfl) (Nat.le_of_ble_eq_true rfl) d_World_isThere_41
  · refine lv_iload_n hx hb d_World_isThere_8 rfl (lv_at hl 1 rfl) ?_
    refine lv_bipush (v := 16) hx hb d_World_isThere_9 (by decide) ?_
    refine lv_icmp_lt hx hb d_World_isThere_11 (tgt := 40) (by decide) (fun hc4 => ?_) (fun hc4 => ?_)
    · refine lv_iconst (v := 0) hx hb d_World_isThere_40 (by decide) ?_
      exact end_z hx hb hr hlocks hS (u := ()) (r := 0) (at_end (hP.sub (ws' := [(h, .inr (6, [.ref st, .int (nI fx), .ref fl, .ref fn, .ref li, .int (nI le), .ref rc, .int (nI rn_), .int rb])), (st, .inr (3, [.ref kd, .ref it, .ref pa])), (pa, .inl (cI, 16, .inl fpa))]) [2, 0, 1] rfl) (hD.sub (ws' := [(h, .inr (6, [.ref st, .int (nI fx), .ref fl, .ref fn, .ref li, .int (nI le), .ref rc, .int (nI rn_), .int rb])), (st, .inr (3, [.ref kd, .ref it, .ref pa])), (pa, .inl (cI, 16, .inl fpa))]) [2, 0, 1] (by decide) rfl)) ((bI_n (fun h7 => by rcases hc.there.mpr h7 with h8 | ⟨j2, a1, a2, a3, a4⟩; exact (fun h8 => absurd (hp2.2.mpr h8) (by rw [hc3]; decide)) h8; exact absurd hc4 (by rw [a3]; exact nI_nlt (a := j2) (b := 16) a1 (by omega)))).symm) (by first | exact bI_z | decide | assumption) (Nat.le_of_ble_eq_true rfl) (Nat.le_of_ble_eq_true rfl) d_World_isThere_41
    · refine lv_iload_n hx hb d_World_isThere_14 rfl (lv_at hl 1 rfl) ?_
      refine lv_bipush (v := 32) hx hb d_World_isThere_15 (by decide) ?_
      refine lv_icmp_ge hx hb d_World_isThere_17 (tgt := 40) (by decide) (fun hc5 => ?_) (fun hc5 => ?_)
      · refine lv_iconst (v := 0) hx hb d_World_isThere_40 (by decide) ?_
        exact end_z hx hb hr hlocks hS (u := ()) (r := 0) (at_end (hP.sub (ws' := [(h, .inr (6, [.ref st, .int (nI fx), .ref fl, .ref fn, .ref li, .int (nI le), .ref rc, .int (nI rn_), .int rb])), (st, .inr (3, [.ref kd, .ref it, .ref pa])), (pa, .inl (cI, 16, .inl fpa))]) [2, 0, 1] rfl) (hD.sub (ws' := [(h, .inr (6, [.ref st, .int (nI fx), .ref fl, .ref fn, .ref li, .int (nI le), .ref rc, .int (nI rn_), .int rb])), (st, .inr (3, [.ref kd, .ref it, .ref pa])), (pa, .inl (cI, 16, .inl fpa))]) [2, 0, 1] (by decide) rfl)) ((bI_n (fun h7 => by rcases hc.there.mpr h7 with h8 | ⟨j2, a1, a2, a3, a4⟩; exact (fun h8 => absurd (hp2.2.mpr h8) (by rw [hc3]; decide)) h8; exact absurd hc5 (by rw [a3]; exact nI_ge (a := j2) (b := 32) a2 (by decide)))).symm) (by first | exact bI_z | decide | assumption) (Nat.le_of_ble_eq_true rfl) (Nat.le_of_ble_eq_true rfl) d_World_isThere_41
      · obtain ⟨j, hj16, hj32, hje⟩ := made_ix hc4 hc5
        subst hje
        refine lv_aload_n hx hb d_World_isThere_20 rfl (lv_at hl 0 rfl) ?_
        refine va_get (D := D) (ci := 6) (v := .ref st) (C := "TaleMachine$World") (T := F_World) (N := 9) hx hb hts in_World hown hK hP 2 rfl rfl 0 (by decide) (hts _ k_60) (fun _ h9 => h9) rfl d_World_isThere_21 ?_
        refine va_get (D := D) (ci := 3) (v := .ref pa) (C := "TaleMachine$State") (T := F_State) (N := 3) hx hb hts in_State hown hK hP 0 rfl rfl 2 (by decide) (hts _ k_56) (fun _ h9 => h9) rfl d_World_isThere_24 ?_
        refine lv_iload_n hx hb d_World_isThere_27 rfl (lv_at hl 1 rfl) ?_
        refine lv_bipush (v := 16) hx hb d_World_isThere_28 (by decide) ?_
        refine lv_isub hx hb d_World_isThere_30 ?_
        refine lv_topi (fun z6 hz6 => ?_)
        obtain rfl : z6 = nI (j - 16) := hz6.trans (pk_sub (a := j) (b := 16) (by omega))
        refine ia_ld hx hb hK hP 1 0 rfl rfl (k := j - 16) (by omega) (by first | decide | assumption) d_World_isThere_31 ?_
        refine lv_iconst (v := (-1)) hx hb d_World_isThere_32 (by decide) ?_
        refine lv_icmp_eq hx hb d_World_isThere_33 (tgt := 40) (by decide) (fun hc7 => ?_) (fun hc7 => ?_)
        · refine lv_iconst (v := 0) hx hb d_World_isThere_40 (by decide) ?_
          exact end_z hx hb hr hlocks hS (u := ()) (r := 0) (at_end (hP.sub (ws' := [(h, .inr (6, [.ref st, .int (nI fx), .ref fl, .ref fn, .ref li, .int (nI le), .ref rc, .int (nI rn_), .int rb])), (st, .inr (3, [.ref kd, .ref it, .ref pa])), (pa, .inl (cI, 16, .inl fpa))]) [2, 0, 1] rfl) (hD.sub (ws' := [(h, .inr (6, [.ref st, .int (nI fx), .ref fl, .ref fn, .ref li, .int (nI le), .ref rc, .int (nI rn_), .int rb])), (st, .inr (3, [.ref kd, .ref it, .ref pa])), (pa, .inl (cI, 16, .inl fpa))]) [2, 0, 1] (by decide) rfl)) ((bI_n (fun h7 => by rcases hc.there.mpr h7 with h8 | ⟨j2, a1, a2, a3, a4⟩; exact (fun h8 => absurd (hp2.2.mpr h8) (by rw [hc3]; decide)) h8; exact absurd (by rw [← (nI_eq (by omega) (by omega)).mp a3]; exact hc7) a4)).symm) (by first | exact bI_z | decide | assumption) (Nat.le_of_ble_eq_true rfl) (Nat.le_of_ble_eq_true rfl) d_World_isThere_41
        · refine lv_iconst (v := 1) hx hb d_World_isThere_36 (by decide) ?_
          refine lv_goto hx hb d_World_isThere_37 (tgt := 41) (by decide) ?_
          exact end_z hx hb hr hlocks hS (u := ()) (r := 1) (at_end (hP.sub (ws' := [(h, .inr (6, [.ref st, .int (nI fx), .ref fl, .ref fn, .ref li, .int (nI le), .ref rc, .int (nI rn_), .int rb])), (st, .inr (3, [.ref kd, .ref it, .ref pa])), (pa, .inl (cI, 16, .inl fpa))]) [2, 0, 1] rfl) (hD.sub (ws' := [(h, .inr (6, [.ref st, .int (nI fx), .ref fl, .ref fn, .ref li, .int (nI le), .ref rc, .int (nI rn_), .int rb])), (st, .inr (3, [.ref kd, .ref it, .ref pa])), (pa, .inl (cI, 16, .inl fpa))]) [2, 0, 1] (by decide) rfl)) ((bI_p (hc.there.mp (Or.inr ⟨j, hj16, hj32, rfl, hc7⟩))).symm) (by first | exact bI_z | decide | assumption) (Nat.le_of_ble_eq_true rfl) (Nat.le_of_ble_eq_true rfl) d_World_isThere_41

set_option maxHeartbeats 4000000 in
set_option maxRecDepth 100000 in
theorem y_inLine (l : Launch) (D : va_G) (cI cZ cJ : ClassId) (h st fl fn li rc kd it pa : Nat) (fx le rn_ : Nat) (rb : Int32) (oo : Int32) (fli : Nat → Int32) (sz : Nat) (hle : le ≤ 32) : Met l y_World_inLine (.code y_World_inLine prog_8_method_13_code 3 (some .int) :: AW) ({ frames := 0, cells := 0, slots := 0, locals := 0 }) (va_Pc [.ref h, .int oo] (pre_ D [(h, .inr (6, [.ref st, .int (nI fx), .ref fl, .ref fn, .ref li, .int (nI le), .ref rc, .int (nI rn_), .int rb])), (li, .inl (cI, 32, .inl fli))] [(cI, .int), (cZ, .boolean), (cJ, .long)] sz)) (va_Qi (fun (r : Int32) (u : Unit) => (r = -1 ∧ ∀ i, i < le → ¬ fli i = oo) ∨ ∃ j, j < le ∧ r = nI j ∧ fli j = oo ∧ ∀ i, i < j → ¬ fli i = oo) (fun _ t => post_ D (va_A [(h, .inr (6, [.ref st, .int (nI fx), .ref fl, .ref fn, .ref li, .int (nI le), .ref rc, .int (nI rn_), .int rb])), (li, .inl (cI, 32, .inl fli))] sz) [(h, .inr (6, [.ref st, .int (nI fx), .ref fl, .ref fn, .ref li, .int (nI le), .ref rc, .int (nI rn_), .int rb])), (li, .inl (cI, 32, .inl fli))] t) (va_A [(h, .inr (6, [.ref st, .int (nI fx), .ref fl, .ref fn, .ref li, .int (nI le), .ref rc, .int (nI rn_), .int rb])), (li, .inl (cI, 32, .inl fli))] sz)) 0 0 (va_A [(h, .inr (6, [.ref st, .int (nI fx), .ref fl, .ref fn, .ref li, .int (nI le), .ref rc, .int (nI rn_), .int rb])), (li, .inl (cI, 32, .inl fli))] sz) := by
  refine Met.ofW (cc := prog_8_method_13_code) (maxL := 3) (ret := (some .int)) (by decide) rfl ?_
  intro p e s m args below meth c s₁ B hml hv
  obtain ⟨rfl, rfl, hP, hK, hD0, hT⟩ := hv
  have hx := B.exec
  have hb := B.bytes
  have hr := B.returns
  have hts0 := atoms_spec (ws := .code y_World_inLine prog_8_method_13_code 3 (some .int) :: AW) B.pre
  have hts : ∀ w ∈ AW, w.before [.ref h, .int oo].toArray s = true := fun w h => hts0 w (List.mem_cons_of_mem _ h)
  have hown : s.vm.findClass "TaleMachine$World" = some m.cls := findClass_of_methodNamed B.named
  have hlocks := B.notSynchronized
  have hD := hD0.self (sz := s.heap.size)
  generalize hAe : va_A [(h, .inr (6, [.ref st, .int (nI fx), .ref fl, .ref fn, .ref li, .int (nI le), .ref rc, .int (nI rn_), .int rb])), (li, .inl (cI, 32, .inl fli))] s.heap.size = A at hD ⊢
  have hA : ∀ q : Nat, s.heap.size ≤ q → A q := fun q h => by rw [← hAe]; exact Or.inr h
  have hS : va_S A s.heap s.heap [] := va_S.rf
  have hl := lv_entry ([.ref h, .int oo]) (n := 3) (Nat.le_of_ble_eq_true rfl)
  rw [lg_entry_eq]
  generalize (lg_sl ([.ref h, .int oo]) ++ List.replicate (3 - (lg_sl ([.ref h, .int oo])).length) Slot.unset).toArray = ls at hl ⊢
  have hl : lv_has ls 3 [(0, .ref h), (1, .int oo)] := hl
  refine lv_iconst (v := 0) hx hb d_World_inLine_0 (by decide) ?_
  refine lv_istore_n (lv' := [(2, .int 0), (0, .ref h), (1, .int oo)]) hx hb d_World_inLine_1 rfl hl (by decide) rfl (fun ls hl => ?_)
  refine lp_W (I := fun k1 H locs ls => (∀ i, i < k1 → ¬ fli i = oo) ∧ va_P D cL [(h, .inr (6, [.ref st, .int (nI fx), .ref fl, .ref fn, .ref li, .int (nI le), .ref rc, .int (nI rn_), .int rb])), (li, .inl (cI, 32, .inl fli))] H ∧ va_D A [(h, .inr (6, [.ref st, .int (nI fx), .ref fl, .ref fn, .ref li, .int (nI le), .ref rc, .int (nI rn_), .int rb])), (li, .inl (cI, 32, .inl fli))] ∧ va_S A s.heap H locs ∧ lv_has ls 3 [(2, .int (nI k1)), (0, .ref h), (1, .int oo)]) (a := 0) (b := le) (by omega) ?_ _ _ _ ⟨fun i hi => absurd hi (Nat.not_lt_zero i), hP, hD, hS, lv_sub hl [0, 1, 2] rfl⟩
  intro k1 H locs ls hkak1 hkbk1 hI ih2
  obtain ⟨hIk1, hP, hD, hS, hl⟩ := hI
  rcases Nat.lt_or_ge k1 le with hkk1 | hkk1
  · refine lv_iload_n hx hb d_World_inLine_2 rfl (lv_at hl 0 rfl) ?_
    refine lv_aload_n hx hb d_World_inLine_3 rfl (lv_at hl 1 rfl) ?_
    refine va_get (D := D) (ci := 6) (v := .int (nI le)) (C := "TaleMachine$World") (T := F_World) (N := 9) hx hb hts in_World hown hK hP 0 rfl rfl 5 (by decide) (hts _ k_67) (fun _ h9 => h9) rfl d_World_inLine_4 ?_
    refine lv_icmp_ge hx hb d_World_inLine_7 (tgt := 28) (by decide) (fun hc3 => ?_) (fun hc3 => ?_)
    · have hc3N : le ≤ k1 := (nI_leI (a := le) (b := k1) (by omega) (by omega)).mp hc3
      exact absurd hc3N (by omega)
    · have hc3N : ¬ le ≤ k1 := fun z9 => hc3 ((nI_leI (a := le) (b := k1) (by omega) (by omega)).mpr z9)
      refine lv_aload_n hx hb d_World_inLine_10 rfl (lv_at hl 1 rfl) ?_
      refine va_get (D := D) (ci := 6) (v := .ref li) (C := "TaleMachine$World") (T := F_World) (N := 9) hx hb hts in_World hown hK hP 0 rfl rfl 4 (by decide) (hts _ k_66) (fun _ h9 => h9) rfl d_World_inLine_11 ?_
      refine lv_iload_n hx hb d_World_inLine_14 rfl (lv_at hl 0 rfl) ?_
      refine ia_ld hx hb hK hP 1 0 rfl rfl (k := k1) (by omega) (by first | decide | assumption) d_World_inLine_15 ?_
      refine lv_iload_n hx hb d_World_inLine_16 rfl (lv_at hl 2 rfl) ?_
      refine lv_icmp_ne hx hb d_World_inLine_17 (tgt := 22) (by decide) (fun hc4 => ?_) (fun hc4 => ?_)
      · refine lv_iinc (v := (nI (k1 + 1))) (lv' := [(2, .int (nI (k1 + 1))), (0, .ref h), (1, .int oo)]) hx hb d_World_inLine_22 hl (k := 0) rfl (nI_1 k1) (by decide) rfl (fun ls hl => ?_)
        refine lv_goto hx hb d_World_inLine_25 (tgt := 2) (by decide) ?_
        exact ih2 hkk1 _ _ _ ⟨fun i hi => by by_cases e9 : i = k1; rw [e9]; exact hc4; exact hIk1 i (by omega), hP, hD, hS, lv_sub hl [0, 1, 2] rfl⟩
      · refine lv_iload_n hx hb d_World_inLine_20 rfl (lv_at hl 0 rfl) ?_
        exact end_i hx hb hr hlocks hS (u := ()) (r := (nI k1)) (at_end (hP.sub (ws' := [(h, .inr (6, [.ref st, .int (nI fx), .ref fl, .ref fn, .ref li, .int (nI le), .ref rc, .int (nI rn_), .int rb])), (li, .inl (cI, 32, .inl fli))]) [0, 1] rfl) (hD.sub (ws' := [(h, .inr (6, [.ref st, .int (nI fx), .ref fl, .ref fn, .ref li, .int (nI le), .ref rc, .int (nI rn_), .int rb])), (li, .inl (cI, 32, .inl fli))]) [0, 1] (by decide) rfl)) (Or.inr ⟨k1, by omega, rfl, hc4, hIk1⟩) (Nat.le_of_ble_eq_true rfl) (Nat.le_of_ble_eq_true rfl) d_World_inLine_21
  · have hkk1 : k1 = le := by omega
    refine lv_iload_n hx hb d_World_inLine_2 rfl (lv_at hl 0 rfl) ?_
    refine lv_aload_n hx hb d_World_inLine_3 rfl (lv_at hl 1 rfl) ?_
    refine va_get (D := D) (ci := 6) (v := .int (nI le)) (C := "TaleMachine$World") (T := F_World) (N := 9) hx hb hts in_World hown hK hP 0 rfl rfl 5 (by decide) (hts _ k_67) (fun _ h9 => h9) rfl d_World_inLine_4 ?_
    refine lv_icmp_ge hx hb d_World_inLine_7 (tgt := 28) (by decide) (fun hc5 => ?_) (fun hc5 => ?_)
    · have hc5N : le ≤ k1 := (nI_leI (a := le) (b := k1) (by omega) (by omega)).mp hc5
      refine lv_iconst (v := (-1)) hx hb d_World_inLine_28 (by decide) ?_
      exact end_i hx hb hr hlocks hS (u := ()) (r := (-1)) (at_end (hP.sub (ws' := [(h, .inr (6, [.ref st, .int (nI fx), .ref fl, .ref fn, .ref li, .int (nI le), .ref rc, .int (nI rn_), .int rb])), (li, .inl (cI, 32, .inl fli))]) [0, 1] rfl) (hD.sub (ws' := [(h, .inr (6, [.ref st, .int (nI fx), .ref fl, .ref fn, .ref li, .int (nI le), .ref rc, .int (nI rn_), .int rb])), (li, .inl (cI, 32, .inl fli))]) [0, 1] (by decide) rfl)) (Or.inl ⟨rfl, by rw [← hkk1]; exact hIk1⟩) (Nat.le_of_ble_eq_true rfl) (Nat.le_of_ble_eq_true rfl) d_World_inLine_29
    · have hc5N : ¬ le ≤ k1 := fun z9 => hc5 ((nI_leI (a := le) (b := k1) (by omega) (by omega)).mpr z9)
      exact absurd hc5N (by omega)

set_option maxHeartbeats 4000000 in
set_option maxRecDepth 100000 in
theorem y_holderFrom (l : Launch) (D : va_G) (cI cZ cJ : ClassId) (h st fl fn li rc kd it pa : Nat) (fx le rn_ : Nat) (rb : Int32) (sa pp : Nat) (fkd fli : Nat → Int32) (f_ : Nat → Int32) (sz : Nat) (hsa : sa ≤ le) (hle : le ≤ 32) (hp : pp < 8) (hrow : ROW fli le) (how : OWK f_ fkd) : Met l y_World_holderFrom (.code y_World_holderFrom prog_8_method_14_code 4 (some .int) :: AW) ({ frames := 1, cells := 0, slots := 0, locals := 22 }) (va_Pc [.ref h, .int (nI sa), .int (nI pp)] (pre_ D [(h, .inr (6, [.ref st, .int (nI fx), .ref fl, .ref fn, .ref li, .int (nI le), .ref rc, .int (nI rn_), .int rb])), (st, .inr (3, [.ref kd, .ref it, .ref pa])), (kd, .inl (cI, 256, .inl fkd)), (li, .inl (cI, 32, .inl fli))] [(cI, .int), (cZ, .boolean), (cJ, .long)] sz)) (va_Qi (fun (r : Int32) (u : Unit) => ON r ∧ r = oI (fnd f_ pp ((lst fli le).drop sa))) (fun _ t => post_ D (va_A [(h, .inr (6, [.ref st, .int (nI fx), .ref fl, .ref fn, .ref li, .int (nI le), .ref rc, .int (nI rn_), .int rb])), (st, .inr (3, [.ref kd, .ref it, .ref pa])), (kd, .inl (cI, 256, .inl fkd)), (li, .inl (cI, 32, .inl fli))] sz) [(h, .inr (6, [.ref st, .int (nI fx), .ref fl, .ref fn, .ref li, .int (nI le), .ref rc, .int (nI rn_), .int rb])), (st, .inr (3, [.ref kd, .ref it, .ref pa])), (kd, .inl (cI, 256, .inl fkd)), (li, .inl (cI, 32, .inl fli))] t) (va_A [(h, .inr (6, [.ref st, .int (nI fx), .ref fl, .ref fn, .ref li, .int (nI le), .ref rc, .int (nI rn_), .int rb])), (st, .inr (3, [.ref kd, .ref it, .ref pa])), (kd, .inl (cI, 256, .inl fkd)), (li, .inl (cI, 32, .inl fli))] sz)) 0 0 (va_A [(h, .inr (6, [.ref st, .int (nI fx), .ref fl, .ref fn, .ref li, .int (nI le), .ref rc, .int (nI rn_), .int rb])), (st, .inr (3, [.ref kd, .ref it, .ref pa])), (kd, .inl (cI, 256, .inl fkd)), (li, .inl (cI, 32, .inl fli))] sz) := by
  refine Met.ofW (cc := prog_8_method_14_code) (maxL := 4) (ret := (some .int)) (by decide) rfl ?_
  intro p e s m args below meth c s₁ B hml hv
  obtain ⟨rfl, rfl, hP, hK, hD0, hT⟩ := hv
  have hx := B.exec
  have hb := B.bytes
  have hr := B.returns
  have hts0 := atoms_spec (ws := .code y_World_holderFrom prog_8_method_14_code 4 (some .int) :: AW) B.pre
  have hts : ∀ w ∈ AW, w.before [.ref h, .int (nI sa), .int (nI pp)].toArray s = true := fun w h => hts0 w (List.mem_cons_of_mem _ h)
  have hown : s.vm.findClass "TaleMachine$World" = some m.cls := findClass_of_methodNamed B.named
  have hlocks := B.notSynchronized
  have hD := hD0.self (sz := s.heap.size)
  generalize hAe : va_A [(h, .inr (6, [.ref st, .int (nI fx), .ref fl, .ref fn, .ref li, .int (nI le), .ref rc, .int (nI rn_), .int rb])), (st, .inr (3, [.ref kd, .ref it, .ref pa])), (kd, .inl (cI, 256, .inl fkd)), (li, .inl (cI, 32, .inl fli))] s.heap.size = A at hD ⊢
  have hA : ∀ q : Nat, s.heap.size ≤ q → A q := fun q h => by rw [← hAe]; exact Or.inr h
  have hS : va_S A s.heap s.heap [] := va_S.rf
  have hl := lv_entry ([.ref h, .int (nI sa), .int (nI pp)]) (n := 4) (Nat.le_of_ble_eq_true rfl)
  rw [lg_entry_eq]
  generalize (lg_sl ([.ref h, .int (nI sa), .int (nI pp)]) ++ List.replicate (4 - (lg_sl ([.ref h, .int (nI sa), .int (nI pp)])).length) Slot.unset).toArray = ls at hl ⊢
  have hl : lv_has ls 4 [(0, .ref h), (1, .int (nI sa)), (2, .int (nI pp))] := hl
  refine lv_iload_n hx hb d_World_holderFrom_0 rfl (lv_at hl 1 rfl) ?_
  refine lv_istore_n (lv' := [(3, .int (nI sa)), (0, .ref h), (1, .int (nI sa)), (2, .int (nI pp))]) hx hb d_World_holderFrom_1 rfl hl (by decide) rfl (fun ls hl => ?_)
  refine lp_W (I := fun k1 H locs ls => (fnd f_ pp ((lst fli le).drop k1) = fnd f_ pp ((lst fli le).drop sa)) ∧ va_P D cL [(h, .inr (6, [.ref st, .int (nI fx), .ref fl, .ref fn, .ref li, .int (nI le), .ref rc, .int (nI rn_), .int rb])), (st, .inr (3, [.ref kd, .ref it, .ref pa])), (kd, .inl (cI, 256, .inl fkd)), (li, .inl (cI, 32, .inl fli))] H ∧ va_D A [(h, .inr (6, [.ref st, .int (nI fx), .ref fl, .ref fn, .ref li, .int (nI le), .ref rc, .int (nI rn_), .int rb])), (st, .inr (3, [.ref kd, .ref it, .ref pa])), (kd, .inl (cI, 256, .inl fkd)), (li, .inl (cI, 32, .inl fli))] ∧ va_S A s.heap H locs ∧ lv_has ls 4 [(3, .int (nI k1)), (0, .ref h), (1, .int (nI sa)), (2, .int (nI pp))]) (a := sa) (b := le) (by omega) ?_ _ _ _ ⟨rfl, hP, hD, hS, lv_sub hl [0, 1, 2, 3] rfl⟩
  intro k1 H locs ls hkak1 hkbk1 hI ih2
  obtain ⟨hIk1, hP, hD, hS, hl⟩ := hI
  rcases Nat.lt_or_ge k1 le with hkk1 | hkk1
  · refine lv_iload_n hx hb d_World_holderFrom_2 rfl (lv_at hl 0 rfl) ?_
    refine lv_aload_n hx hb d_World_holderFrom_3 rfl (lv_at hl 1 rfl) ?_
    refine va_get (D := D) (ci := 6) (v := .int (nI le)) (C := "TaleMachine$World") (T := F_World) (N := 9) hx hb hts in_World hown hK hP 0 rfl rfl 5 (by decide) (hts _ k_67) (fun _ h9 => h9) rfl d_World_holderFrom_4 ?_
    refine lv_icmp_ge hx hb d_World_holderFrom_7 (tgt := 38) (by decide) (fun hc3 => ?_) (fun hc3 => ?_)
    · have hc3N : le ≤ k1 := (nI_leI (a := le) (b := k1) (by omega) (by omega)).mp hc3
      exact absurd hc3N (by omega)
    · have hc3N : ¬ le ≤ k1 := fun z9 => hc3 ((nI_leI (a := le) (b := k1) (by omega) (by omega)).mpr z9)
      refine lv_aload_n hx hb d_World_holderFrom_10 rfl (lv_at hl 1 rfl) ?_
      refine lv_aload_n hx hb d_World_holderFrom_11 rfl (lv_at hl 1 rfl) ?_
      refine va_get (D := D) (ci := 6) (v := .ref li) (C := "TaleMachine$World") (T := F_World) (N := 9) hx hb hts in_World hown hK hP 0 rfl rfl 4 (by decide) (hts _ k_66) (fun _ h9 => h9) rfl d_World_holderFrom_12 ?_
      refine lv_iload_n hx hb d_World_holderFrom_15 rfl (lv_at hl 0 rfl) ?_
      refine ia_ld hx hb hK hP 3 0 rfl rfl (k := k1) (by omega) (by first | decide | assumption) d_World_holderFrom_16 ?_
      obtain ⟨q, hq, hqe⟩ := hrow k1 (by omega)
      refine lv_topi (fun z4 hz4 => ?_)
      obtain rfl : z4 = (nI q) := hz4.trans (hqe)
      refine lv_iload_n hx hb d_World_holderFrom_17 rfl (lv_at hl 3 rfl) ?_
      refine mv_i (va_runV (C := "TaleMachine$World") (As := [.int (nI q), .int (nI pp)]) (rest := []) ⟨hx, hb, hml, hown, hts⟩ (w_ownKind l D cI cZ cJ h st fl fn li rc kd it pa fx le rn_ rb q pp fkd _ (by first | assumption | omega | decide) (by first | assumption | omega | decide)) (cwV 2 hts (gInV k_326 k_327 k_328 k_3 k_329) rfl rfl rfl (by decide +kernel) ⟨Nat.le_of_ble_eq_true rfl, Nat.le_of_ble_eq_true rfl⟩) (pre_V (va_recv hK hP (q := ("TaleMachine$World", F_World, 9)) rfl (q0 := 0) rfl) (hP.sub [0, 1, 2] rfl) (hK.sub [0, 1, 2] rfl) (hD.sub [0, 1, 2] (by decide) rfl) hT) rfl rfl hl.1 rfl (lv_room (Nat.le_of_ble_eq_true rfl)) d_World_holderFrom_18 ⟨Nat.le_of_ble_eq_true rfl, Nat.le_of_ble_eq_true rfl⟩) hP hD hS hA [0, 1, 2] [3] rfl rfl (by decide) (by decide) (wr := [(li, .inl (cI, 32, .inl fli))]) (wn := fun _ => [(h, .inr (6, [.ref st, .int (nI fx), .ref fl, .ref fn, .ref li, .int (nI le), .ref rc, .int (nI rn_), .int rb])), (st, .inr (3, [.ref kd, .ref it, .ref pa])), (kd, .inl (cI, 256, .inl fkd))]) (fun _ _ h9 => h9) (fun r5 _ H locs hp6 hP hD hS => ?_)
      have hP : va_P D cL [(li, .inl (cI, 32, .inl fli)), (h, .inr (6, [.ref st, .int (nI fx), .ref fl, .ref fn, .ref li, .int (nI le), .ref rc, .int (nI rn_), .int rb])), (st, .inr (3, [.ref kd, .ref it, .ref pa])), (kd, .inl (cI, 256, .inl fkd))] H := hP
      have hD : va_D A [(li, .inl (cI, 32, .inl fli)), (h, .inr (6, [.ref st, .int (nI fx), .ref fl, .ref fn, .ref li, .int (nI le), .ref rc, .int (nI rn_), .int rb])), (st, .inr (3, [.ref kd, .ref it, .ref pa])), (kd, .inl (cI, 256, .inl fkd))] := hD
      obtain rfl : r5 = fkd (q * 8 + pp) := hp6
      refine lv_iconst (v := (-1)) hx hb d_World_holderFrom_21 (by decide) ?_
      refine lv_icmp_eq hx hb d_World_holderFrom_22 (tgt := 32) (by decide) (fun hc7 => ?_) (fun hc7 => ?_)
      · refine lv_iinc (v := (nI (k1 + 1))) (lv' := [(3, .int (nI (k1 + 1))), (0, .ref h), (1, .int (nI sa)), (2, .int (nI pp))]) hx hb d_World_holderFrom_32 hl (k := 0) rfl (nI_1 k1) (by decide) rfl (fun ls hl => ?_)
        refine lv_goto hx hb d_World_holderFrom_35 (tgt := 2) (by decide) ?_
        exact ih2 hkk1 _ _ _ ⟨(fd_no hkk1 hqe hq (fun z9 => ((how q hq pp hp).mpr z9) hc7)).symm.trans hIk1, hP.sub (ws' := [(h, .inr (6, [.ref st, .int (nI fx), .ref fl, .ref fn, .ref li, .int (nI le), .ref rc, .int (nI rn_), .int rb])), (st, .inr (3, [.ref kd, .ref it, .ref pa])), (kd, .inl (cI, 256, .inl fkd)), (li, .inl (cI, 32, .inl fli))]) [1, 2, 3, 0] rfl, hD.sub (ws' := [(h, .inr (6, [.ref st, .int (nI fx), .ref fl, .ref fn, .ref li, .int (nI le), .ref rc, .int (nI rn_), .int rb])), (st, .inr (3, [.ref kd, .ref it, .ref pa])), (kd, .inl (cI, 256, .inl fkd)), (li, .inl (cI, 32, .inl fli))]) [1, 2, 3, 0] (by decide) rfl, hS, lv_sub hl [0, 1, 2, 3] rfl⟩
      · refine lv_aload_n hx hb d_World_holderFrom_25 rfl (lv_at hl 1 rfl) ?_
        refine va_get (D := D) (ci := 6) (v := .ref li) (C := "TaleMachine$World") (T := F_World) (N := 9) hx hb hts in_World hown hK hP 1 rfl rfl 4 (by decide) (hts _ k_66) (fun _ h9 => h9) rfl d_World_holderFrom_26 ?_
        refine lv_iload_n hx hb d_World_holderFrom_29 rfl (lv_at hl 0 rfl) ?_
        refine ia_ld hx hb hK hP 0 0 rfl rfl (k := k1) (by omega) (by first | decide | assumption) d_World_holderFrom_30 ?_
        refine lv_topi (fun z8 hz8 => ?_)
        obtain rfl : z8 = (nI q) := hz8.trans (hqe)
        exact end_i hx hb hr hlocks hS (u := ()) (r := (nI q)) (at_end (hP.sub (ws' := [(h, .inr (6, [.ref st, .int (nI fx), .ref fl, .ref fn, .ref li, .int (nI le), .ref rc, .int (nI rn_), .int rb])), (st, .inr (3, [.ref kd, .ref it, .ref pa])), (kd, .inl (cI, 256, .inl fkd)), (li, .inl (cI, 32, .inl fli))]) [1, 2, 3, 0] rfl) (hD.sub (ws' := [(h, .inr (6, [.ref st, .int (nI fx), .ref fl, .ref fn, .ref li, .int (nI le), .ref rc, .int (nI rn_), .int rb])), (st, .inr (3, [.ref kd, .ref it, .ref pa])), (kd, .inl (cI, 256, .inl fkd)), (li, .inl (cI, 32, .inl fli))]) [1, 2, 3, 0] (by decide) rfl)) (⟨Or.inr ⟨q, hq, rfl⟩, by rw [← hIk1, fd_yes hkk1 hqe hq ((how q hq pp hp).mp hc7)]; rfl⟩) (Nat.le_of_ble_eq_true rfl) (Nat.le_of_ble_eq_true rfl) d_World_holderFrom_31
  · have hkk1 : k1 = le := by omega
    refine lv_iload_n hx hb d_World_holderFrom_2 rfl (lv_at hl 0 rfl) ?_
    refine lv_aload_n hx hb d_World_holderFrom_3 rfl (lv_at hl 1 rfl) ?_
    refine va_get (D := D) (ci := 6) (v := .int (nI le)) (C := "TaleMachine$World") (T := F_World) (N := 9) hx hb hts in_World hown hK hP 0 rfl rfl 5 (by decide) (hts _ k_67) (fun _ h9 => h9) rfl d_World_holderFrom_4 ?_
    refine lv_icmp_ge hx hb d_World_holderFrom_7 (tgt := 38) (by decide) (fun hc9 => ?_) (fun hc9 => ?_)
    · have hc9N : le ≤ k1 := (nI_leI (a := le) (b := k1) (by omega) (by omega)).mp hc9
      refine lv_iconst (v := (-1)) hx hb d_World_holderFrom_38 (by decide) ?_
      exact end_i hx hb hr hlocks hS (u := ()) (r := (-1)) (at_end (hP.sub (ws' := [(h, .inr (6, [.ref st, .int (nI fx), .ref fl, .ref fn, .ref li, .int (nI le), .ref rc, .int (nI rn_), .int rb])), (st, .inr (3, [.ref kd, .ref it, .ref pa])), (kd, .inl (cI, 256, .inl fkd)), (li, .inl (cI, 32, .inl fli))]) [0, 1, 2, 3] rfl) (hD.sub (ws' := [(h, .inr (6, [.ref st, .int (nI fx), .ref fl, .ref fn, .ref li, .int (nI le), .ref rc, .int (nI rn_), .int rb])), (st, .inr (3, [.ref kd, .ref it, .ref pa])), (kd, .inl (cI, 256, .inl fkd)), (li, .inl (cI, 32, .inl fli))]) [0, 1, 2, 3] (by decide) rfl)) (⟨Or.inl rfl, by rw [← hIk1, hkk1, fd_end]; rfl⟩) (Nat.le_of_ble_eq_true rfl) (Nat.le_of_ble_eq_true rfl) d_World_holderFrom_39
    · have hc9N : ¬ le ≤ k1 := fun z9 => hc9 ((nI_leI (a := le) (b := k1) (by omega) (by omega)).mpr z9)
      exact absurd hc9N (by omega)

set_option maxHeartbeats 4000000 in
set_option maxRecDepth 100000 in
theorem y_holder (l : Launch) (D : va_G) (cI cZ cJ : ClassId) (h st fl fn li rc kd it pa : Nat) (fx le rn_ : Nat) (rb : Int32) (oo pp : Nat) (fkd fpa ffl ffn fli : Nat → Int32) (f_ : Nat → Int32) (sz : Nat) (hc : CW f_ fx ffl ffn fpa) (hfl : FLL ffl) (how : OWK f_ fkd) (ho : oo < 32) (h1 : f_ (29 * oo) = 1) (hp : pp < 8) : Met l y_World_holder (.code y_World_holder prog_8_method_15_code 3 (some .int) :: AW) ({ frames := 2, cells := 0, slots := 0, locals := 162 }) (va_Pc [.ref h, .int (nI oo), .int (nI pp)] (pre_ D [(h, .inr (6, [.ref st, .int (nI fx), .ref fl, .ref fn, .ref li, .int (nI le), .ref rc, .int (nI rn_), .int rb])), (st, .inr (3, [.ref kd, .ref it, .ref pa])), (pa, .inl (cI, 16, .inl fpa)), (fl, .inl (cI, 256, .inl ffl)), (fn, .inl (cI, 16, .inl ffn)), (li, .inl (cI, 32, .inl fli)), (kd, .inl (cI, 256, .inl fkd))] [(cI, .int), (cZ, .boolean), (cJ, .long)] sz)) (va_Qi (fun (r : Int32) (u : Nat × (Nat → Int32)) => ON r ∧ r = ownv f_ (LNE f_ oo).reverse pp (-1)) (fun u t => match u with | (le2, g) => post_ D (va_A [(h, .inr (6, [.ref st, .int (nI fx), .ref fl, .ref fn, .ref li, .int (nI le), .ref rc, .int (nI rn_), .int rb])), (st, .inr (3, [.ref kd, .ref it, .ref pa])), (pa, .inl (cI, 16, .inl fpa)), (fl, .inl (cI, 256, .inl ffl)), (fn, .inl (cI, 16, .inl ffn)), (li, .inl (cI, 32, .inl fli)), (kd, .inl (cI, 256, .inl fkd))] sz) [(h, .inr (6, [.ref st, .int (nI fx), .ref fl, .ref fn, .ref li, .int (nI le2), .ref rc, .int (nI rn_), .int rb])), (st, .inr (3, [.ref kd, .ref it, .ref pa])), (pa, .inl (cI, 16, .inl fpa)), (fl, .inl (cI, 256, .inl ffl)), (fn, .inl (cI, 16, .inl ffn)), (li, .inl (cI, 32, .inl g)), (kd, .inl (cI, 256, .inl fkd))] t) (va_A [(h, .inr (6, [.ref st, .int (nI fx), .ref fl, .ref fn, .ref li, .int (nI le), .ref rc, .int (nI rn_), .int rb])), (st, .inr (3, [.ref kd, .ref it, .ref pa])), (pa, .inl (cI, 16, .inl fpa)), (fl, .inl (cI, 256, .inl ffl)), (fn, .inl (cI, 16, .inl ffn)), (li, .inl (cI, 32, .inl fli)), (kd, .inl (cI, 256, .inl fkd))] sz)) 0 0 (va_A [(h, .inr (6, [.ref st, .int (nI fx), .ref fl, .ref fn, .ref li, .int (nI le), .ref rc, .int (nI rn_), .int rb])), (st, .inr (3, [.ref kd, .ref it, .ref pa])), (pa, .inl (cI, 16, .inl fpa)), (fl, .inl (cI, 256, .inl ffl)), (fn, .inl (cI, 16, .inl ffn)), (li, .inl (cI, 32, .inl fli)), (kd, .inl (cI, 256, .inl fkd))] sz) := by
  refine Met.ofW (cc := prog_8_method_15_code) (maxL := 3) (ret := (some .int)) (by decide) rfl ?_
  intro p e s m args below meth c s₁ B hml hv
  obtain ⟨rfl, rfl, hP, hK, hD0, hT⟩ := hv
  have hx := B.exec
  have hb := B.bytes
  have hr := B.returns
  have hts0 := atoms_spec (ws := .code y_World_holder prog_8_method_15_code 3 (some .int) :: AW) B.pre
  have hts : ∀ w ∈ AW, w.before [.ref h, .int (nI oo), .int (nI pp)].toArray s = true := fun w h => hts0 w (List.mem_cons_of_mem _ h)
  have hown : s.vm.findClass "TaleMachine$World" = some m.cls := findClass_of_methodNamed B.named
  have hlocks := B.notSynchronized
  have hD := hD0.self (sz := s.heap.size)
  generalize hAe : va_A [(h, .inr (6, [.ref st, .int (nI fx), .ref fl, .ref fn, .ref li, .int (nI le), .ref rc, .int (nI rn_), .int rb])), (st, .inr (3, [.ref kd, .ref it, .ref pa])), (pa, .inl (cI, 16, .inl fpa)), (fl, .inl (cI, 256, .inl ffl)), (fn, .inl (cI, 16, .inl ffn)), (li, .inl (cI, 32, .inl fli)), (kd, .inl (cI, 256, .inl fkd))] s.heap.size = A at hD ⊢
  have hA : ∀ q : Nat, s.heap.size ≤ q → A q := fun q h => by rw [← hAe]; exact Or.inr h
  have hS : va_S A s.heap s.heap [] := va_S.rf
  have hl := lv_entry ([.ref h, .int (nI oo), .int (nI pp)]) (n := 3) (Nat.le_of_ble_eq_true rfl)
  rw [lg_entry_eq]
  generalize (lg_sl ([.ref h, .int (nI oo), .int (nI pp)]) ++ List.replicate (3 - (lg_sl ([.ref h, .int (nI oo), .int (nI pp)])).length) Slot.unset).toArray = ls at hl ⊢
  have hl : lv_has ls 3 [(0, .ref h), (1, .int (nI oo)), (2, .int (nI pp))] := hl
  refine lv_aload_n hx hb d_World_holder_0 rfl (lv_at hl 0 rfl) ?_
  refine lv_iload_n hx hb d_World_holder_1 rfl (lv_at hl 1 rfl) ?_
  refine mv_v (va_runV (C := "TaleMachine$World") (As := [.int (nI oo)]) (rest := []) ⟨hx, hb, hml, hown, hts⟩ (y_lay l D cI cZ cJ h st fl fn li rc kd it pa fx le rn_ rb oo fpa ffl ffn fli f_ _ (by first | assumption | omega | decide) (by first | assumption | omega | decide) (by first | assumption | omega | decide) (by first | assumption | omega | decide)) (cwV 1 hts (gInV k_322 k_268 k_269 k_3 k_270) rfl rfl rfl (by decide +kernel) ⟨Nat.le_of_ble_eq_true rfl, Nat.le_of_ble_eq_true rfl⟩) (pre_V (va_recv hK hP (q := ("TaleMachine$World", F_World, 9)) rfl (q0 := 0) rfl) (hP.sub [0, 1, 2, 3, 4, 5] rfl) (hK.sub [0, 1, 2] rfl) (hD.sub [0, 1, 2, 3, 4, 5] (by decide) rfl) hT) rfl rfl hl.1 rfl (lv_room (Nat.le_of_ble_eq_true rfl)) d_World_holder_2 ⟨Nat.le_of_ble_eq_true rfl, Nat.le_of_ble_eq_true rfl⟩) hP hD hS hA [0, 1, 2, 3, 4, 5] [6] rfl rfl (by decide) (by decide) (wr := [(kd, .inl (cI, 256, .inl fkd))]) (wn := fun u => match u with | (le2, g) => [(h, .inr (6, [.ref st, .int (nI fx), .ref fl, .ref fn, .ref li, .int (nI le2), .ref rc, .int (nI rn_), .int rb])), (st, .inr (3, [.ref kd, .ref it, .ref pa])), (pa, .inl (cI, 16, .inl fpa)), (fl, .inl (cI, 256, .inl ffl)), (fn, .inl (cI, 16, .inl ffn)), (li, .inl (cI, 32, .inl g))]) (fun _ _ h9 => h9) (fun u H locs hp4 hP hD hS => ?_)
  obtain ⟨a1, a2⟩ := u
  dsimp only at hp4
  have hP : va_P D cL [(kd, .inl (cI, 256, .inl fkd)), (h, .inr (6, [.ref st, .int (nI fx), .ref fl, .ref fn, .ref li, .int (nI a1), .ref rc, .int (nI rn_), .int rb])), (st, .inr (3, [.ref kd, .ref it, .ref pa])), (pa, .inl (cI, 16, .inl fpa)), (fl, .inl (cI, 256, .inl ffl)), (fn, .inl (cI, 16, .inl ffn)), (li, .inl (cI, 32, .inl a2))] H := hP
  have hD : va_D A [(kd, .inl (cI, 256, .inl fkd)), (h, .inr (6, [.ref st, .int (nI fx), .ref fl, .ref fn, .ref li, .int (nI a1), .ref rc, .int (nI rn_), .int rb])), (st, .inr (3, [.ref kd, .ref it, .ref pa])), (pa, .inl (cI, 16, .inl fpa)), (fl, .inl (cI, 256, .inl ffl)), (fn, .inl (cI, 16, .inl ffn)), (li, .inl (cI, 32, .inl a2))] := hD
  refine lv_aload_n hx hb d_World_holder_5 rfl (lv_at hl 0 rfl) ?_
  refine lv_iconst (v := 0) hx hb d_World_holder_6 (by decide) ?_
  refine lv_iload_n hx hb d_World_holder_7 rfl (lv_at hl 2 rfl) ?_
  refine mv_i (va_runV (C := "TaleMachine$World") (As := [.int 0, .int (nI pp)]) (rest := []) ⟨hx, hb, hml, hown, hts⟩ (y_holderFrom l D cI cZ cJ h st fl fn li rc kd it pa fx a1 rn_ rb 0 pp fkd a2 f_ _ (by first | assumption | omega | decide) hp4.1 (by first | assumption | omega | decide) hp4.2.1 (by first | assumption | omega | decide)) (cwV 2 hts (gInV k_323 k_324 k_886 k_3 k_325) rfl rfl rfl (by decide +kernel) ⟨Nat.le_of_ble_eq_true rfl, Nat.le_of_ble_eq_true rfl⟩) (pre_V (va_recv hK hP (q := ("TaleMachine$World", F_World, 9)) rfl (q0 := 1) rfl) (hP.sub [1, 2, 0, 6] rfl) (hK.sub [0, 1, 2] rfl) (hD.sub [1, 2, 0, 6] (by decide) rfl) hT) rfl rfl hl.1 rfl (lv_room (Nat.le_of_ble_eq_true rfl)) d_World_holder_8 ⟨Nat.le_of_ble_eq_true rfl, Nat.le_of_ble_eq_true rfl⟩) hP hD hS hA [1, 2, 0, 6] [3, 4, 5] rfl rfl (by decide) (by decide) (wr := [(pa, .inl (cI, 16, .inl fpa)), (fl, .inl (cI, 256, .inl ffl)), (fn, .inl (cI, 16, .inl ffn))]) (wn := fun _ => [(h, .inr (6, [.ref st, .int (nI fx), .ref fl, .ref fn, .ref li, .int (nI a1), .ref rc, .int (nI rn_), .int rb])), (st, .inr (3, [.ref kd, .ref it, .ref pa])), (kd, .inl (cI, 256, .inl fkd)), (li, .inl (cI, 32, .inl a2))]) (fun _ _ h9 => h9) (fun r5 _ H locs hp6 hP hD hS => ?_)
  have hP : va_P D cL [(pa, .inl (cI, 16, .inl fpa)), (fl, .inl (cI, 256, .inl ffl)), (fn, .inl (cI, 16, .inl ffn)), (h, .inr (6, [.ref st, .int (nI fx), .ref fl, .ref fn, .ref li, .int (nI a1), .ref rc, .int (nI rn_), .int rb])), (st, .inr (3, [.ref kd, .ref it, .ref pa])), (kd, .inl (cI, 256, .inl fkd)), (li, .inl (cI, 32, .inl a2))] H := hP
  have hD : va_D A [(pa, .inl (cI, 16, .inl fpa)), (fl, .inl (cI, 256, .inl ffl)), (fn, .inl (cI, 16, .inl ffn)), (h, .inr (6, [.ref st, .int (nI fx), .ref fl, .ref fn, .ref li, .int (nI a1), .ref rc, .int (nI rn_), .int rb])), (st, .inr (3, [.ref kd, .ref it, .ref pa])), (kd, .inl (cI, 256, .inl fkd)), (li, .inl (cI, 32, .inl a2))] := hD
  exact end_i hx hb hr hlocks hS (u := (a1, a2)) (r := r5) (at_end (hP.sub (ws' := [(h, .inr (6, [.ref st, .int (nI fx), .ref fl, .ref fn, .ref li, .int (nI a1), .ref rc, .int (nI rn_), .int rb])), (st, .inr (3, [.ref kd, .ref it, .ref pa])), (pa, .inl (cI, 16, .inl fpa)), (fl, .inl (cI, 256, .inl ffl)), (fn, .inl (cI, 16, .inl ffn)), (li, .inl (cI, 32, .inl a2)), (kd, .inl (cI, 256, .inl fkd))]) [3, 4, 0, 1, 2, 6, 5] rfl) (hD.sub (ws' := [(h, .inr (6, [.ref st, .int (nI fx), .ref fl, .ref fn, .ref li, .int (nI a1), .ref rc, .int (nI rn_), .int rb])), (st, .inr (3, [.ref kd, .ref it, .ref pa])), (pa, .inl (cI, 16, .inl fpa)), (fl, .inl (cI, 256, .inl ffl)), (fn, .inl (cI, 16, .inl ffn)), (li, .inl (cI, 32, .inl a2)), (kd, .inl (cI, 256, .inl fkd))]) [3, 4, 0, 1, 2, 6, 5] (by decide) rfl)) (⟨hp6.1, by have z9 := hp6.2; rw [List.drop_zero, hp4.2.2] at z9; exact z9⟩) (Nat.le_of_ble_eq_true rfl) (Nat.le_of_ble_eq_true rfl) d_World_holder_11

set_option maxHeartbeats 4000000 in
set_option maxRecDepth 100000 in
theorem y_holderBehind (l : Launch) (D : va_G) (cI cZ cJ : ClassId) (h st fl fn li rc kd it pa : Nat) (fx le rn_ : Nat) (rb : Int32) (oo pp : Nat) (fkd fpa ffl ffn fli : Nat → Int32) (f_ : Nat → Int32) (fo : Int32) (sz : Nat) (hc : CW f_ fx ffl ffn fpa) (hfl : FLL ffl) (how : OWK f_ fkd) (ho : oo < 32) (h1 : f_ (29 * oo) = 1) (hp : pp < 8) (hfo : ¬ fo = -1) : Met l y_World_holderBehind (.code y_World_holderBehind prog_8_method_16_code 5 (some .int) :: AW) ({ frames := 2, cells := 0, slots := 0, locals := 162 }) (va_Pc [.ref h, .int fo, .int (nI oo), .int (nI pp)] (pre_ D [(h, .inr (6, [.ref st, .int (nI fx), .ref fl, .ref fn, .ref li, .int (nI le), .ref rc, .int (nI rn_), .int rb])), (st, .inr (3, [.ref kd, .ref it, .ref pa])), (pa, .inl (cI, 16, .inl fpa)), (fl, .inl (cI, 256, .inl ffl)), (fn, .inl (cI, 16, .inl ffn)), (li, .inl (cI, 32, .inl fli)), (kd, .inl (cI, 256, .inl fkd))] [(cI, .int), (cZ, .boolean), (cJ, .long)] sz)) (va_Qi (fun (r : Int32) (u : Nat × (Nat → Int32)) => ON r ∧ r = ownv f_ (LNE f_ oo).reverse pp fo) (fun u t => match u with | (le2, g) => post_ D (va_A [(h, .inr (6, [.ref st, .int (nI fx), .ref fl, .ref fn, .ref li, .int (nI le), .ref rc, .int (nI rn_), .int rb])), (st, .inr (3, [.ref kd, .ref it, .ref pa])), (pa, .inl (cI, 16, .inl fpa)), (fl, .inl (cI, 256, .inl ffl)), (fn, .inl (cI, 16, .inl ffn)), (li, .inl (cI, 32, .inl fli)), (kd, .inl (cI, 256, .inl fkd))] sz) [(h, .inr (6, [.ref st, .int (nI fx), .ref fl, .ref fn, .ref li, .int (nI le2), .ref rc, .int (nI rn_), .int rb])), (st, .inr (3, [.ref kd, .ref it, .ref pa])), (pa, .inl (cI, 16, .inl fpa)), (fl, .inl (cI, 256, .inl ffl)), (fn, .inl (cI, 16, .inl ffn)), (li, .inl (cI, 32, .inl g)), (kd, .inl (cI, 256, .inl fkd))] t) (va_A [(h, .inr (6, [.ref st, .int (nI fx), .ref fl, .ref fn, .ref li, .int (nI le), .ref rc, .int (nI rn_), .int rb])), (st, .inr (3, [.ref kd, .ref it, .ref pa])), (pa, .inl (cI, 16, .inl fpa)), (fl, .inl (cI, 256, .inl ffl)), (fn, .inl (cI, 16, .inl ffn)), (li, .inl (cI, 32, .inl fli)), (kd, .inl (cI, 256, .inl fkd))] sz)) 0 0 (va_A [(h, .inr (6, [.ref st, .int (nI fx), .ref fl, .ref fn, .ref li, .int (nI le), .ref rc, .int (nI rn_), .int rb])), (st, .inr (3, [.ref kd, .ref it, .ref pa])), (pa, .inl (cI, 16, .inl fpa)), (fl, .inl (cI, 256, .inl ffl)), (fn, .inl (cI, 16, .inl ffn)), (li, .inl (cI, 32, .inl fli)), (kd, .inl (cI, 256, .inl fkd))] sz) := by
  refine Met.ofW (cc := prog_8_method_16_code) (maxL := 5) (ret := (some .int)) (by decide) rfl ?_
  intro p e s m args below meth c s₁ B hml hv
  obtain ⟨rfl, rfl, hP, hK, hD0, hT⟩ := hv
  have hx := B.exec
  have hb := B.bytes
  have hr := B.returns
  have hts0 := atoms_spec (ws := .code y_World_holderBehind prog_8_method_16_code 5 (some .int) :: AW) B.pre
  have hts : ∀ w ∈ AW, w.before [.ref h, .int fo, .int (nI oo), .int (nI pp)].toArray s = true := fun w h => hts0 w (List.mem_cons_of_mem _ h)
  have hown : s.vm.findClass "TaleMachine$World" = some m.cls := findClass_of_methodNamed B.named
  have hlocks := B.notSynchronized
  have hD := hD0.self (sz := s.heap.size)
  generalize hAe : va_A [(h, .inr (6, [.ref st, .int (nI fx), .ref fl, .ref fn, .ref li, .int (nI le), .ref rc, .int (nI rn_), .int rb])), (st, .inr (3, [.ref kd, .ref it, .ref pa])), (pa, .inl (cI, 16, .inl fpa)), (fl, .inl (cI, 256, .inl ffl)), (fn, .inl (cI, 16, .inl ffn)), (li, .inl (cI, 32, .inl fli)), (kd, .inl (cI, 256, .inl fkd))] s.heap.size = A at hD ⊢
  have hA : ∀ q : Nat, s.heap.size ≤ q → A q := fun q h => by rw [← hAe]; exact Or.inr h
  have hS : va_S A s.heap s.heap [] := va_S.rf
  have hl := lv_entry ([.ref h, .int fo, .int (nI oo), .int (nI pp)]) (n := 5) (Nat.le_of_ble_eq_true rfl)
  rw [lg_entry_eq]
  generalize (lg_sl ([.ref h, .int fo, .int (nI oo), .int (nI pp)]) ++ List.replicate (5 - (lg_sl ([.ref h, .int fo, .int (nI oo), .int (nI pp)])).length) Slot.unset).toArray = ls at hl ⊢
  have hl : lv_has ls 5 [(0, .ref h), (1, .int fo), (2, .int (nI oo)), (3, .int (nI pp))] := hl
  refine lv_aload_n hx hb d_World_holderBehind_0 rfl (lv_at hl 0 rfl) ?_
  refine lv_iload_n hx hb d_World_holderBehind_1 rfl (lv_at hl 2 rfl) ?_
  refine mv_v (va_runV (C := "TaleMachine$World") (As := [.int (nI oo)]) (rest := []) ⟨hx, hb, hml, hown, hts⟩ (y_lay l D cI cZ cJ h st fl fn li rc kd it pa fx le rn_ rb oo fpa ffl ffn fli f_ _ (by first | assumption | omega | decide) (by first | assumption | omega | decide) (by first | assumption | omega | decide) (by first | assumption | omega | decide)) (cwV 1 hts (gInV k_322 k_268 k_269 k_3 k_270) rfl rfl rfl (by decide +kernel) ⟨Nat.le_of_ble_eq_true rfl, Nat.le_of_ble_eq_true rfl⟩) (pre_V (va_recv hK hP (q := ("TaleMachine$World", F_World, 9)) rfl (q0 := 0) rfl) (hP.sub [0, 1, 2, 3, 4, 5] rfl) (hK.sub [0, 1, 2] rfl) (hD.sub [0, 1, 2, 3, 4, 5] (by decide) rfl) hT) rfl rfl hl.1 rfl (lv_room (Nat.le_of_ble_eq_true rfl)) d_World_holderBehind_2 ⟨Nat.le_of_ble_eq_true rfl, Nat.le_of_ble_eq_true rfl⟩) hP hD hS hA [0, 1, 2, 3, 4, 5] [6] rfl rfl (by decide) (by decide) (wr := [(kd, .inl (cI, 256, .inl fkd))]) (wn := fun u => match u with | (le2, g) => [(h, .inr (6, [.ref st, .int (nI fx), .ref fl, .ref fn, .ref li, .int (nI le2), .ref rc, .int (nI rn_), .int rb])), (st, .inr (3, [.ref kd, .ref it, .ref pa])), (pa, .inl (cI, 16, .inl fpa)), (fl, .inl (cI, 256, .inl ffl)), (fn, .inl (cI, 16, .inl ffn)), (li, .inl (cI, 32, .inl g))]) (fun _ _ h9 => h9) (fun u H locs hp4 hP hD hS => ?_)
  obtain ⟨a1, a2⟩ := u
  dsimp only at hp4
  have hP : va_P D cL [(kd, .inl (cI, 256, .inl fkd)), (h, .inr (6, [.ref st, .int (nI fx), .ref fl, .ref fn, .ref li, .int (nI a1), .ref rc, .int (nI rn_), .int rb])), (st, .inr (3, [.ref kd, .ref it, .ref pa])), (pa, .inl (cI, 16, .inl fpa)), (fl, .inl (cI, 256, .inl ffl)), (fn, .inl (cI, 16, .inl ffn)), (li, .inl (cI, 32, .inl a2))] H := hP
  have hD : va_D A [(kd, .inl (cI, 256, .inl fkd)), (h, .inr (6, [.ref st, .int (nI fx), .ref fl, .ref fn, .ref li, .int (nI a1), .ref rc, .int (nI rn_), .int rb])), (st, .inr (3, [.ref kd, .ref it, .ref pa])), (pa, .inl (cI, 16, .inl fpa)), (fl, .inl (cI, 256, .inl ffl)), (fn, .inl (cI, 16, .inl ffn)), (li, .inl (cI, 32, .inl a2))] := hD
  refine lv_aload_n hx hb d_World_holderBehind_5 rfl (lv_at hl 0 rfl) ?_
  refine lv_iload_n hx hb d_World_holderBehind_6 rfl (lv_at hl 1 rfl) ?_
  refine mv_i (va_runV (C := "TaleMachine$World") (As := [.int fo]) (rest := []) ⟨hx, hb, hml, hown, hts⟩ (y_inLine l D cI cZ cJ h st fl fn li rc 0 0 0 fx a1 rn_ rb fo a2 _ hp4.1) (cwV 1 hts (gInV k_367 k_278 k_279 k_3 k_280) rfl rfl rfl (by decide +kernel) ⟨Nat.le_of_ble_eq_true rfl, Nat.le_of_ble_eq_true rfl⟩) (pre_V (va_recv hK hP (q := ("TaleMachine$World", F_World, 9)) rfl (q0 := 1) rfl) (hP.sub [1, 6] rfl) (hK.sub [0, 1, 2] rfl) (hD.sub [1, 6] (by decide) rfl) hT) rfl rfl hl.1 rfl (lv_room (Nat.le_of_ble_eq_true rfl)) d_World_holderBehind_7 ⟨Nat.le_of_ble_eq_true rfl, Nat.le_of_ble_eq_true rfl⟩) hP hD hS hA [1, 6] [0, 2, 3, 4, 5] rfl rfl (by decide) (by decide) (wr := [(kd, .inl (cI, 256, .inl fkd)), (st, .inr (3, [.ref kd, .ref it, .ref pa])), (pa, .inl (cI, 16, .inl fpa)), (fl, .inl (cI, 256, .inl ffl)), (fn, .inl (cI, 16, .inl ffn))]) (wn := fun _ => [(h, .inr (6, [.ref st, .int (nI fx), .ref fl, .ref fn, .ref li, .int (nI a1), .ref rc, .int (nI rn_), .int rb])), (li, .inl (cI, 32, .inl a2))]) (fun _ _ h9 => h9) (fun r5 _ H locs hp6 hP hD hS => ?_)
  have hP : va_P D cL [(kd, .inl (cI, 256, .inl fkd)), (st, .inr (3, [.ref kd, .ref it, .ref pa])), (pa, .inl (cI, 16, .inl fpa)), (fl, .inl (cI, 256, .inl ffl)), (fn, .inl (cI, 16, .inl ffn)), (h, .inr (6, [.ref st, .int (nI fx), .ref fl, .ref fn, .ref li, .int (nI a1), .ref rc, .int (nI rn_), .int rb])), (li, .inl (cI, 32, .inl a2))] H := hP
  have hD : va_D A [(kd, .inl (cI, 256, .inl fkd)), (st, .inr (3, [.ref kd, .ref it, .ref pa])), (pa, .inl (cI, 16, .inl fpa)), (fl, .inl (cI, 256, .inl ffl)), (fn, .inl (cI, 16, .inl ffn)), (h, .inr (6, [.ref st, .int (nI fx), .ref fl, .ref fn, .ref li, .int (nI a1), .ref rc, .int (nI rn_), .int rb])), (li, .inl (cI, 32, .inl a2))] := hD
  refine lv_istore (lv' := [(4, .int r5), (0, .ref h), (1, .int fo), (2, .int (nI oo)), (3, .int (nI pp))]) hx hb d_World_holderBehind_10 hl (by decide) rfl (fun ls hl => ?_)
  have hl32 := hp4.1
  refine lv_iload hx hb d_World_holderBehind_12 (lv_at hl 0 rfl) ?_
  refine lv_iconst (v := (-1)) hx hb d_World_holderBehind_14 (by decide) ?_
  refine lv_icmp_ne hx hb d_World_holderBehind_15 (tgt := 22) (by decide) (fun hc7 => ?_) (fun hc7 => ?_)
  · obtain ⟨j9, hj9, ej9, hat9, hno9⟩ := hp6.resolve_left (fun z9 => hc7 z9.1)
    subst ej9
    refine lv_aload_n hx hb d_World_holderBehind_22 rfl (lv_at hl 1 rfl) ?_
    refine lv_iload hx hb d_World_holderBehind_23 (lv_at hl 0 rfl) ?_
    refine lv_iconst (v := 1) hx hb d_World_holderBehind_25 (by decide) ?_
    refine lv_iadd hx hb d_World_holderBehind_26 ?_
    refine lv_topi (fun z8 hz8 => ?_)
    obtain rfl : z8 = nI (j9 + 1) := hz8.trans (nI_add j9 1)
    refine lv_iload_n hx hb d_World_holderBehind_27 rfl (lv_at hl 4 rfl) ?_
    refine mv_i (va_runV (C := "TaleMachine$World") (As := [.int (nI (j9 + 1)), .int (nI pp)]) (rest := []) ⟨hx, hb, hml, hown, hts⟩ (y_holderFrom l D cI cZ cJ h st fl fn li rc kd it pa fx a1 rn_ rb (j9 + 1) pp fkd a2 f_ _ (by first | assumption | omega | decide) hp4.1 (by first | assumption | omega | decide) hp4.2.1 (by first | assumption | omega | decide)) (cwV 2 hts (gInV k_323 k_324 k_886 k_3 k_325) rfl rfl rfl (by decide +kernel) ⟨Nat.le_of_ble_eq_true rfl, Nat.le_of_ble_eq_true rfl⟩) (pre_V (va_recv hK hP (q := ("TaleMachine$World", F_World, 9)) rfl (q0 := 5) rfl) (hP.sub [5, 1, 0, 6] rfl) (hK.sub [0, 1, 2] rfl) (hD.sub [5, 1, 0, 6] (by decide) rfl) hT) rfl rfl hl.1 rfl (lv_room (Nat.le_of_ble_eq_true rfl)) d_World_holderBehind_28 ⟨Nat.le_of_ble_eq_true rfl, Nat.le_of_ble_eq_true rfl⟩) hP hD hS hA [5, 1, 0, 6] [2, 3, 4] rfl rfl (by decide) (by decide) (wr := [(pa, .inl (cI, 16, .inl fpa)), (fl, .inl (cI, 256, .inl ffl)), (fn, .inl (cI, 16, .inl ffn))]) (wn := fun _ => [(h, .inr (6, [.ref st, .int (nI fx), .ref fl, .ref fn, .ref li, .int (nI a1), .ref rc, .int (nI rn_), .int rb])), (st, .inr (3, [.ref kd, .ref it, .ref pa])), (kd, .inl (cI, 256, .inl fkd)), (li, .inl (cI, 32, .inl a2))]) (fun _ _ h9 => h9) (fun r9 _ H locs hp10 hP hD hS => ?_)
    have hP : va_P D cL [(pa, .inl (cI, 16, .inl fpa)), (fl, .inl (cI, 256, .inl ffl)), (fn, .inl (cI, 16, .inl ffn)), (h, .inr (6, [.ref st, .int (nI fx), .ref fl, .ref fn, .ref li, .int (nI a1), .ref rc, .int (nI rn_), .int rb])), (st, .inr (3, [.ref kd, .ref it, .ref pa])), (kd, .inl (cI, 256, .inl fkd)), (li, .inl (cI, 32, .inl a2))] H := hP
    have hD : va_D A [(pa, .inl (cI, 16, .inl fpa)), (fl, .inl (cI, 256, .inl ffl)), (fn, .inl (cI, 16, .inl ffn)), (h, .inr (6, [.ref st, .int (nI fx), .ref fl, .ref fn, .ref li, .int (nI a1), .ref rc, .int (nI rn_), .int rb])), (st, .inr (3, [.ref kd, .ref it, .ref pa])), (kd, .inl (cI, 256, .inl fkd)), (li, .inl (cI, 32, .inl a2))] := hD
    exact end_i hx hb hr hlocks hS (u := (a1, a2)) (r := r9) (at_end (hP.sub (ws' := [(h, .inr (6, [.ref st, .int (nI fx), .ref fl, .ref fn, .ref li, .int (nI a1), .ref rc, .int (nI rn_), .int rb])), (st, .inr (3, [.ref kd, .ref it, .ref pa])), (pa, .inl (cI, 16, .inl fpa)), (fl, .inl (cI, 256, .inl ffl)), (fn, .inl (cI, 16, .inl ffn)), (li, .inl (cI, 32, .inl a2)), (kd, .inl (cI, 256, .inl fkd))]) [3, 4, 0, 1, 2, 6, 5] rfl) (hD.sub (ws' := [(h, .inr (6, [.ref st, .int (nI fx), .ref fl, .ref fn, .ref li, .int (nI a1), .ref rc, .int (nI rn_), .int rb])), (st, .inr (3, [.ref kd, .ref it, .ref pa])), (pa, .inl (cI, 16, .inl fpa)), (fl, .inl (cI, 256, .inl ffl)), (fn, .inl (cI, 16, .inl ffn)), (li, .inl (cI, 32, .inl a2)), (kd, .inl (cI, 256, .inl fkd))]) [3, 4, 0, 1, 2, 6, 5] (by decide) rfl)) (⟨hp10.1, by unfold ownv; rw [if_neg hfo, ← hp4.2.2, hp10.2]; have z9 := bhd_at _ j9 hp4.2.1 hj9 hat9 hno9 0 (by omega); rw [List.drop_zero] at z9; rw [z9]⟩) (Nat.le_of_ble_eq_true rfl) (Nat.le_of_ble_eq_true rfl) d_World_holderBehind_31
  · refine lv_iconst (v := (-1)) hx hb d_World_holderBehind_18 (by decide) ?_
    refine lv_goto hx hb d_World_holderBehind_19 (tgt := 31) (by decide) ?_
    exact end_i hx hb hr hlocks hS (u := (a1, a2)) (r := (-1)) (at_end (hP.sub (ws' := [(h, .inr (6, [.ref st, .int (nI fx), .ref fl, .ref fn, .ref li, .int (nI a1), .ref rc, .int (nI rn_), .int rb])), (st, .inr (3, [.ref kd, .ref it, .ref pa])), (pa, .inl (cI, 16, .inl fpa)), (fl, .inl (cI, 256, .inl ffl)), (fn, .inl (cI, 16, .inl ffn)), (li, .inl (cI, 32, .inl a2)), (kd, .inl (cI, 256, .inl fkd))]) [5, 1, 2, 3, 4, 6, 0] rfl) (hD.sub (ws' := [(h, .inr (6, [.ref st, .int (nI fx), .ref fl, .ref fn, .ref li, .int (nI a1), .ref rc, .int (nI rn_), .int rb])), (st, .inr (3, [.ref kd, .ref it, .ref pa])), (pa, .inl (cI, 16, .inl fpa)), (fl, .inl (cI, 256, .inl ffl)), (fn, .inl (cI, 16, .inl ffn)), (li, .inl (cI, 32, .inl a2)), (kd, .inl (cI, 256, .inl fkd))]) [5, 1, 2, 3, 4, 6, 0] (by decide) rfl)) (⟨Or.inl rfl, by unfold ownv; rw [if_neg hfo, ← hp4.2.2, bhd_none hp4.2.1 (by rcases hp6 with z8 | ⟨j8, hj8, e8, -⟩; exact z8.2; exact absurd (e8.symm.trans hc7) (ne_m1 (by omega)))]; rfl⟩) (Nat.le_of_ble_eq_true rfl) (Nat.le_of_ble_eq_true rfl) d_World_holderBehind_31

set_option maxHeartbeats 4000000 in
set_option maxRecDepth 100000 in
theorem y_descends (l : Launch) (D : va_G) (cI cZ cJ : ClassId) (h st fl fn li rc kd it pa : Nat) (fx le rn_ : Nat) (rb : Int32) (oo bo : Int32) (fpa ffl ffn fli : Nat → Int32) (f_ : Nat → Int32) (sz : Nat) (hc : CW f_ fx ffl ffn fpa) (hfl : FLL ffl) : Met l y_World_descends (.code y_World_descends prog_8_method_17_code 3 (some .boolean) :: AW) ({ frames := 2, cells := 0, slots := 0, locals := 162 }) (va_Pc [.ref h, .int oo, .int bo] (pre_ D [(h, .inr (6, [.ref st, .int (nI fx), .ref fl, .ref fn, .ref li, .int (nI le), .ref rc, .int (nI rn_), .int rb])), (st, .inr (3, [.ref kd, .ref it, .ref pa])), (pa, .inl (cI, 16, .inl fpa)), (fl, .inl (cI, 256, .inl ffl)), (fn, .inl (cI, 16, .inl ffn)), (li, .inl (cI, 32, .inl fli))] [(cI, .int), (cZ, .boolean), (cJ, .long)] sz)) (va_Qi (fun (r : Int32) (u : Nat × (Nat → Int32)) => r = bI (DSC f_ oo bo)) (fun u t => match u with | (le2, g) => post_ D (va_A [(h, .inr (6, [.ref st, .int (nI fx), .ref fl, .ref fn, .ref li, .int (nI le), .ref rc, .int (nI rn_), .int rb])), (st, .inr (3, [.ref kd, .ref it, .ref pa])), (pa, .inl (cI, 16, .inl fpa)), (fl, .inl (cI, 256, .inl ffl)), (fn, .inl (cI, 16, .inl ffn)), (li, .inl (cI, 32, .inl fli))] sz) [(h, .inr (6, [.ref st, .int (nI fx), .ref fl, .ref fn, .ref li, .int (nI le2), .ref rc, .int (nI rn_), .int rb])), (st, .inr (3, [.ref kd, .ref it, .ref pa])), (pa, .inl (cI, 16, .inl fpa)), (fl, .inl (cI, 256, .inl ffl)), (fn, .inl (cI, 16, .inl ffn)), (li, .inl (cI, 32, .inl g))] t) (va_A [(h, .inr (6, [.ref st, .int (nI fx), .ref fl, .ref fn, .ref li, .int (nI le), .ref rc, .int (nI rn_), .int rb])), (st, .inr (3, [.ref kd, .ref it, .ref pa])), (pa, .inl (cI, 16, .inl fpa)), (fl, .inl (cI, 256, .inl ffl)), (fn, .inl (cI, 16, .inl ffn)), (li, .inl (cI, 32, .inl fli))] sz)) 0 0 (va_A [(h, .inr (6, [.ref st, .int (nI fx), .ref fl, .ref fn, .ref li, .int (nI le), .ref rc, .int (nI rn_), .int rb])), (st, .inr (3, [.ref kd, .ref it, .ref pa])), (pa, .inl (cI, 16, .inl fpa)), (fl, .inl (cI, 256, .inl ffl)), (fn, .inl (cI, 16, .inl ffn)), (li, .inl (cI, 32, .inl fli))] sz) := by
  refine Met.ofW (cc := prog_8_method_17_code) (maxL := 3) (ret := (some .boolean)) (by decide) rfl ?_
  intro p e s m args below meth c s₁ B hml hv
  obtain ⟨rfl, rfl, hP, hK, hD0, hT⟩ := hv
  have hx := B.exec
  have hb := B.bytes
  have hr := B.returns
  have hts0 := atoms_spec (ws := .code y_World_descends prog_8_method_17_code 3 (some .boolean) :: AW) B.pre
  have hts : ∀ w ∈ AW, w.before [.ref h, .int oo, .int bo].toArray s = true := fun w h => hts0 w (List.mem_cons_of_mem _ h)
  have hown : s.vm.findClass "TaleMachine$World" = some m.cls := findClass_of_methodNamed B.named
  have hlocks := B.notSynchronized
  have hD := hD0.self (sz := s.heap.size)
  generalize hAe : va_A [(h, .inr (6, [.ref st, .int (nI fx), .ref fl, .ref fn, .ref li, .int (nI le), .ref rc, .int (nI rn_), .int rb])), (st, .inr (3, [.ref kd, .ref it, .ref pa])), (pa, .inl (cI, 16, .inl fpa)), (fl, .inl (cI, 256, .inl ffl)), (fn, .inl (cI, 16, .inl ffn)), (li, .inl (cI, 32, .inl fli))] s.heap.size = A at hD ⊢
  have hA : ∀ q : Nat, s.heap.size ≤ q → A q := fun q h => by rw [← hAe]; exact Or.inr h
  have hS : va_S A s.heap s.heap [] := va_S.rf
  have hl := lv_entry ([.ref h, .int oo, .int bo]) (n := 3) (Nat.le_of_ble_eq_true rfl)
  rw [lg_entry_eq]
  generalize (lg_sl ([.ref h, .int oo, .int bo]) ++ List.replicate (3 - (lg_sl ([.ref h, .int oo, .int bo])).length) Slot.unset).toArray = ls at hl ⊢
  have hl : lv_has ls 3 [(0, .ref h), (1, .int oo), (2, .int bo)] := hl
  refine lv_aload_n hx hb d_World_descends_0 rfl (lv_at hl 0 rfl) ?_
  refine lv_iload_n hx hb d_World_descends_1 rfl (lv_at hl 1 rfl) ?_
  refine mv_i (va_runV (C := "TaleMachine$World") (As := [.int oo]) (rest := []) ⟨hx, hb, hml, hown, hts⟩ (y_isThere l D cI cZ cJ h st fl fn li rc kd it pa fx le rn_ rb oo fpa ffl ffn f_ _ (by first | assumption | omega | decide)) (cwV 1 hts (gInV k_393 k_232 k_233 k_3 k_234) rfl rfl rfl (by decide +kernel) ⟨Nat.le_of_ble_eq_true rfl, Nat.le_of_ble_eq_true rfl⟩) (pre_V (va_recv hK hP (q := ("TaleMachine$World", F_World, 9)) rfl (q0 := 0) rfl) (hP.sub [0, 1, 2] rfl) (hK.sub [0, 1, 2] rfl) (hD.sub [0, 1, 2] (by decide) rfl) hT) rfl rfl hl.1 rfl (lv_room (Nat.le_of_ble_eq_true rfl)) d_World_descends_2 ⟨Nat.le_of_ble_eq_true rfl, Nat.le_of_ble_eq_true rfl⟩) hP hD hS hA [0, 1, 2] [3, 4, 5] rfl rfl (by decide) (by decide) (wr := [(fl, .inl (cI, 256, .inl ffl)), (fn, .inl (cI, 16, .inl ffn)), (li, .inl (cI, 32, .inl fli))]) (wn := fun _ => [(h, .inr (6, [.ref st, .int (nI fx), .ref fl, .ref fn, .ref li, .int (nI le), .ref rc, .int (nI rn_), .int rb])), (st, .inr (3, [.ref kd, .ref it, .ref pa])), (pa, .inl (cI, 16, .inl fpa))]) (fun _ _ h9 => h9) (fun r1 _ H locs hp2 hP hD hS => ?_)
  have hP : va_P D cL [(fl, .inl (cI, 256, .inl ffl)), (fn, .inl (cI, 16, .inl ffn)), (li, .inl (cI, 32, .inl fli)), (h, .inr (6, [.ref st, .int (nI fx), .ref fl, .ref fn, .ref li, .int (nI le), .ref rc, .int (nI rn_), .int rb])), (st, .inr (3, [.ref kd, .ref it, .ref pa])), (pa, .inl (cI, 16, .inl fpa))] H := hP
  have hD : va_D A [(fl, .inl (cI, 256, .inl ffl)), (fn, .inl (cI, 16, .inl ffn)), (li, .inl (cI, 32, .inl fli)), (h, .inr (6, [.ref st, .int (nI fx), .ref fl, .ref fn, .ref li, .int (nI le), .ref rc, .int (nI rn_), .int rb])), (st, .inr (3, [.ref kd, .ref it, .ref pa])), (pa, .inl (cI, 16, .inl fpa))] := hD
  obtain rfl : r1 = bI (TH f_ oo) := hp2
  refine lv_if_eq hx hb d_World_descends_5 (tgt := 16) (by decide) (fun hc3 => ?_) (fun hc3 => ?_)
  · refine lv_iconst (v := 0) hx hb d_World_descends_16 (by decide) ?_
    exact end_z hx hb hr hlocks hS (u := (le, fli)) (r := 0) (at_end (hP.sub (ws' := [(h, .inr (6, [.ref st, .int (nI fx), .ref fl, .ref fn, .ref li, .int (nI le), .ref rc, .int (nI rn_), .int rb])), (st, .inr (3, [.ref kd, .ref it, .ref pa])), (pa, .inl (cI, 16, .inl fpa)), (fl, .inl (cI, 256, .inl ffl)), (fn, .inl (cI, 16, .inl ffn)), (li, .inl (cI, 32, .inl fli))]) [3, 4, 5, 0, 1, 2] rfl) (hD.sub (ws' := [(h, .inr (6, [.ref st, .int (nI fx), .ref fl, .ref fn, .ref li, .int (nI le), .ref rc, .int (nI rn_), .int rb])), (st, .inr (3, [.ref kd, .ref it, .ref pa])), (pa, .inl (cI, 16, .inl fpa)), (fl, .inl (cI, 256, .inl ffl)), (fn, .inl (cI, 16, .inl ffn)), (li, .inl (cI, 32, .inl fli))]) [3, 4, 5, 0, 1, 2] (by decide) rfl)) ((bI_n (fun h9 => bI_f hc3 h9.1)).symm) (by first | exact bI_z | decide | assumption) (Nat.le_of_ble_eq_true rfl) (Nat.le_of_ble_eq_true rfl) d_World_descends_17
  · refine lv_aload_n hx hb d_World_descends_8 rfl (lv_at hl 0 rfl) ?_
    refine lv_iload_n hx hb d_World_descends_9 rfl (lv_at hl 2 rfl) ?_
    refine mv_i (va_runV (C := "TaleMachine$World") (As := [.int bo]) (rest := []) ⟨hx, hb, hml, hown, hts⟩ (y_isThere l D cI cZ cJ h st fl fn li rc kd it pa fx le rn_ rb bo fpa ffl ffn f_ _ (by first | assumption | omega | decide)) (cwV 1 hts (gInV k_393 k_232 k_233 k_3 k_234) rfl rfl rfl (by decide +kernel) ⟨Nat.le_of_ble_eq_true rfl, Nat.le_of_ble_eq_true rfl⟩) (pre_V (va_recv hK hP (q := ("TaleMachine$World", F_World, 9)) rfl (q0 := 3) rfl) (hP.sub [3, 4, 5] rfl) (hK.sub [0, 1, 2] rfl) (hD.sub [3, 4, 5] (by decide) rfl) hT) rfl rfl hl.1 rfl (lv_room (Nat.le_of_ble_eq_true rfl)) d_World_descends_10 ⟨Nat.le_of_ble_eq_true rfl, Nat.le_of_ble_eq_true rfl⟩) hP hD hS hA [3, 4, 5] [0, 1, 2] rfl rfl (by decide) (by decide) (wr := [(fl, .inl (cI, 256, .inl ffl)), (fn, .inl (cI, 16, .inl ffn)), (li, .inl (cI, 32, .inl fli))]) (wn := fun _ => [(h, .inr (6, [.ref st, .int (nI fx), .ref fl, .ref fn, .ref li, .int (nI le), .ref rc, .int (nI rn_), .int rb])), (st, .inr (3, [.ref kd, .ref it, .ref pa])), (pa, .inl (cI, 16, .inl fpa))]) (fun _ _ h9 => h9) (fun r4 _ H locs hp5 hP hD hS => ?_)
    have hP : va_P D cL [(fl, .inl (cI, 256, .inl ffl)), (fn, .inl (cI, 16, .inl ffn)), (li, .inl (cI, 32, .inl fli)), (h, .inr (6, [.ref st, .int (nI fx), .ref fl, .ref fn, .ref li, .int (nI le), .ref rc, .int (nI rn_), .int rb])), (st, .inr (3, [.ref kd, .ref it, .ref pa])), (pa, .inl (cI, 16, .inl fpa))] H := hP
    have hD : va_D A [(fl, .inl (cI, 256, .inl ffl)), (fn, .inl (cI, 16, .inl ffn)), (li, .inl (cI, 32, .inl fli)), (h, .inr (6, [.ref st, .int (nI fx), .ref fl, .ref fn, .ref li, .int (nI le), .ref rc, .int (nI rn_), .int rb])), (st, .inr (3, [.ref kd, .ref it, .ref pa])), (pa, .inl (cI, 16, .inl fpa))] := hD
    obtain rfl : r4 = bI (TH f_ bo) := hp5
    refine lv_if_ne hx hb d_World_descends_13 (tgt := 18) (by decide) (fun hc6 => ?_) (fun hc6 => ?_)
    · have hta := bI_t hc3
      have htb := bI_t hc6
      obtain ⟨ea, ha, ha1⟩ := hta.ix
      obtain ⟨eb, hb_, hb1⟩ := htb.ix
      rw [ea] at hl
      have hl : lv_has ls 3 [(0, .ref h), (1, .int (nI (oo.toNatClampNeg))), (2, .int bo)] := hl
      refine lv_aload_n hx hb d_World_descends_18 rfl (lv_at hl 0 rfl) ?_
      refine lv_iload_n hx hb d_World_descends_19 rfl (lv_at hl 1 rfl) ?_
      refine mv_v (va_runV (C := "TaleMachine$World") (As := [.int (nI (oo.toNatClampNeg))]) (rest := []) ⟨hx, hb, hml, hown, hts⟩ (y_lay l D cI cZ cJ h st fl fn li rc kd it pa fx le rn_ rb oo.toNatClampNeg fpa ffl ffn fli f_ _ (by first | assumption | omega | decide) (by first | assumption | omega | decide) (by first | assumption | omega | decide) (by first | assumption | omega | decide)) (cwV 1 hts (gInV k_322 k_268 k_269 k_3 k_270) rfl rfl rfl (by decide +kernel) ⟨Nat.le_of_ble_eq_true rfl, Nat.le_of_ble_eq_true rfl⟩) (pre_V (va_recv hK hP (q := ("TaleMachine$World", F_World, 9)) rfl (q0 := 3) rfl) (hP.sub [3, 4, 5, 0, 1, 2] rfl) (hK.sub [0, 1, 2] rfl) (hD.sub [3, 4, 5, 0, 1, 2] (by decide) rfl) hT) rfl rfl hl.1 rfl (lv_room (Nat.le_of_ble_eq_true rfl)) d_World_descends_20 ⟨Nat.le_of_ble_eq_true rfl, Nat.le_of_ble_eq_true rfl⟩) hP hD hS hA [3, 4, 5, 0, 1, 2] [] rfl rfl (by decide) (by decide) (wr := []) (wn := fun u => match u with | (le2, g) => [(h, .inr (6, [.ref st, .int (nI fx), .ref fl, .ref fn, .ref li, .int (nI le2), .ref rc, .int (nI rn_), .int rb])), (st, .inr (3, [.ref kd, .ref it, .ref pa])), (pa, .inl (cI, 16, .inl fpa)), (fl, .inl (cI, 256, .inl ffl)), (fn, .inl (cI, 16, .inl ffn)), (li, .inl (cI, 32, .inl g))]) (fun _ _ h9 => h9) (fun u H locs hp10 hP hD hS => ?_)
      obtain ⟨a7, a8⟩ := u
      dsimp only at hp10
      have hP : va_P D cL [(h, .inr (6, [.ref st, .int (nI fx), .ref fl, .ref fn, .ref li, .int (nI a7), .ref rc, .int (nI rn_), .int rb])), (st, .inr (3, [.ref kd, .ref it, .ref pa])), (pa, .inl (cI, 16, .inl fpa)), (fl, .inl (cI, 256, .inl ffl)), (fn, .inl (cI, 16, .inl ffn)), (li, .inl (cI, 32, .inl a8))] H := hP
      have hD : va_D A [(h, .inr (6, [.ref st, .int (nI fx), .ref fl, .ref fn, .ref li, .int (nI a7), .ref rc, .int (nI rn_), .int rb])), (st, .inr (3, [.ref kd, .ref it, .ref pa])), (pa, .inl (cI, 16, .inl fpa)), (fl, .inl (cI, 256, .inl ffl)), (fn, .inl (cI, 16, .inl ffn)), (li, .inl (cI, 32, .inl a8))] := hD
      refine lv_aload_n hx hb d_World_descends_23 rfl (lv_at hl 0 rfl) ?_
      refine lv_iload_n hx hb d_World_descends_24 rfl (lv_at hl 2 rfl) ?_
      refine mv_i (va_runV (C := "TaleMachine$World") (As := [.int bo]) (rest := []) ⟨hx, hb, hml, hown, hts⟩ (y_inLine l D cI cZ cJ h st fl fn li rc 0 0 0 fx a7 rn_ rb bo a8 _ hp10.1) (cwV 1 hts (gInV k_367 k_278 k_279 k_3 k_280) rfl rfl rfl (by decide +kernel) ⟨Nat.le_of_ble_eq_true rfl, Nat.le_of_ble_eq_true rfl⟩) (pre_V (va_recv hK hP (q := ("TaleMachine$World", F_World, 9)) rfl (q0 := 0) rfl) (hP.sub [0, 5] rfl) (hK.sub [0, 1, 2] rfl) (hD.sub [0, 5] (by decide) rfl) hT) rfl rfl hl.1 rfl (lv_room (Nat.le_of_ble_eq_true rfl)) d_World_descends_25 ⟨Nat.le_of_ble_eq_true rfl, Nat.le_of_ble_eq_true rfl⟩) hP hD hS hA [0, 5] [1, 2, 3, 4] rfl rfl (by decide) (by decide) (wr := [(st, .inr (3, [.ref kd, .ref it, .ref pa])), (pa, .inl (cI, 16, .inl fpa)), (fl, .inl (cI, 256, .inl ffl)), (fn, .inl (cI, 16, .inl ffn))]) (wn := fun _ => [(h, .inr (6, [.ref st, .int (nI fx), .ref fl, .ref fn, .ref li, .int (nI a7), .ref rc, .int (nI rn_), .int rb])), (li, .inl (cI, 32, .inl a8))]) (fun _ _ h9 => h9) (fun r11 _ H locs hp12 hP hD hS => ?_)
      have hP : va_P D cL [(st, .inr (3, [.ref kd, .ref it, .ref pa])), (pa, .inl (cI, 16, .inl fpa)), (fl, .inl (cI, 256, .inl ffl)), (fn, .inl (cI, 16, .inl ffn)), (h, .inr (6, [.ref st, .int (nI fx), .ref fl, .ref fn, .ref li, .int (nI a7), .ref rc, .int (nI rn_), .int rb])), (li, .inl (cI, 32, .inl a8))] H := hP
      have hD : va_D A [(st, .inr (3, [.ref kd, .ref it, .ref pa])), (pa, .inl (cI, 16, .inl fpa)), (fl, .inl (cI, 256, .inl ffl)), (fn, .inl (cI, 16, .inl ffn)), (h, .inr (6, [.ref st, .int (nI fx), .ref fl, .ref fn, .ref li, .int (nI a7), .ref rc, .int (nI rn_), .int rb])), (li, .inl (cI, 32, .inl a8))] := hD
      refine lv_iconst (v := (-1)) hx hb d_World_descends_28 (by decide) ?_
      refine lv_icmp_eq hx hb d_World_descends_29 (tgt := 36) (by decide) (fun hc13 => ?_) (fun hc13 => ?_)
      · refine lv_iconst (v := 0) hx hb d_World_descends_36 (by decide) ?_
        exact end_z hx hb hr hlocks hS (u := (a7, a8)) (r := 0) (at_end (hP.sub (ws' := [(h, .inr (6, [.ref st, .int (nI fx), .ref fl, .ref fn, .ref li, .int (nI a7), .ref rc, .int (nI rn_), .int rb])), (st, .inr (3, [.ref kd, .ref it, .ref pa])), (pa, .inl (cI, 16, .inl fpa)), (fl, .inl (cI, 256, .inl ffl)), (fn, .inl (cI, 16, .inl ffn)), (li, .inl (cI, 32, .inl a8))]) [4, 0, 1, 2, 3, 5] rfl) (hD.sub (ws' := [(h, .inr (6, [.ref st, .int (nI fx), .ref fl, .ref fn, .ref li, .int (nI a7), .ref rc, .int (nI rn_), .int rb])), (st, .inr (3, [.ref kd, .ref it, .ref pa])), (pa, .inl (cI, 16, .inl fpa)), (fl, .inl (cI, 256, .inl ffl)), (fn, .inl (cI, 16, .inl ffn)), (li, .inl (cI, 32, .inl a8))]) [4, 0, 1, 2, 3, 5] (by decide) rfl)) ((bI_n (fun h9 => by obtain ⟨j8, hj8, e8⟩ := (mem_lst (b := bo.toNatClampNeg) hp10.2.1 (by omega)).mp (by rw [hp10.2.2]; exact List.mem_reverse.mpr h9.2.2); rcases hp12 with z8 | ⟨j7, hj7, e7, -⟩; exact z8.2 j8 hj8 (e8.trans eb.symm); exact absurd (e7.symm.trans hc13) (ne_m1 (by have := hp10.1; omega)))).symm) (by first | exact bI_z | decide | assumption) (Nat.le_of_ble_eq_true rfl) (Nat.le_of_ble_eq_true rfl) d_World_descends_37
      · refine lv_iconst (v := 1) hx hb d_World_descends_32 (by decide) ?_
        refine lv_goto hx hb d_World_descends_33 (tgt := 37) (by decide) ?_
        exact end_z hx hb hr hlocks hS (u := (a7, a8)) (r := 1) (at_end (hP.sub (ws' := [(h, .inr (6, [.ref st, .int (nI fx), .ref fl, .ref fn, .ref li, .int (nI a7), .ref rc, .int (nI rn_), .int rb])), (st, .inr (3, [.ref kd, .ref it, .ref pa])), (pa, .inl (cI, 16, .inl fpa)), (fl, .inl (cI, 256, .inl ffl)), (fn, .inl (cI, 16, .inl ffn)), (li, .inl (cI, 32, .inl a8))]) [4, 0, 1, 2, 3, 5] rfl) (hD.sub (ws' := [(h, .inr (6, [.ref st, .int (nI fx), .ref fl, .ref fn, .ref li, .int (nI a7), .ref rc, .int (nI rn_), .int rb])), (st, .inr (3, [.ref kd, .ref it, .ref pa])), (pa, .inl (cI, 16, .inl fpa)), (fl, .inl (cI, 256, .inl ffl)), (fn, .inl (cI, 16, .inl ffn)), (li, .inl (cI, 32, .inl a8))]) [4, 0, 1, 2, 3, 5] (by decide) rfl)) ((bI_p ⟨hta, htb, by obtain ⟨j8, hj8, -, e8, -⟩ := hp12.resolve_left (fun z9 => hc13 z9.1); rw [eb] at e8; exact List.mem_reverse.mp (by rw [← hp10.2.2]; exact (mem_lst hp10.2.1 (by omega)).mpr ⟨j8, hj8, e8⟩)⟩).symm) (by first | exact bI_z | decide | assumption) (Nat.le_of_ble_eq_true rfl) (Nat.le_of_ble_eq_true rfl) d_World_descends_37
    · refine lv_iconst (v := 0) hx hb d_World_descends_16 (by decide) ?_
      exact end_z hx hb hr hlocks hS (u := (le, fli)) (r := 0) (at_end (hP.sub (ws' := [(h, .inr (6, [.ref st, .int (nI fx), .ref fl, .ref fn, .ref li, .int (nI le), .ref rc, .int (nI rn_), .int rb])), (st, .inr (3, [.ref kd, .ref it, .ref pa])), (pa, .inl (cI, 16, .inl fpa)), (fl, .inl (cI, 256, .inl ffl)), (fn, .inl (cI, 16, .inl ffn)), (li, .inl (cI, 32, .inl fli))]) [3, 4, 5, 0, 1, 2] rfl) (hD.sub (ws' := [(h, .inr (6, [.ref st, .int (nI fx), .ref fl, .ref fn, .ref li, .int (nI le), .ref rc, .int (nI rn_), .int rb])), (st, .inr (3, [.ref kd, .ref it, .ref pa])), (pa, .inl (cI, 16, .inl fpa)), (fl, .inl (cI, 256, .inl ffl)), (fn, .inl (cI, 16, .inl ffn)), (li, .inl (cI, 32, .inl fli))]) [3, 4, 5, 0, 1, 2] (by decide) rfl)) ((bI_n (fun h9 => bI_f hc6 h9.2.1)).symm) (by first | exact bI_z | decide | assumption) (Nat.le_of_ble_eq_true rfl) (Nat.le_of_ble_eq_true rfl) d_World_descends_17

set_option maxHeartbeats 4000000 in
set_option maxRecDepth 100000 in
theorem y_clearOwn (l : Launch) (D : va_G) (cI cZ cJ : ClassId) (h st fl fn li rc kd it pa : Nat) (fx le rn_ : Nat) (rb : Int32) (oo : Nat) (fkd fit : Nat → Int32) (sz : Nat) (ho : oo < 32) : Met l y_World_clearOwn (.code y_World_clearOwn prog_8_method_11_code 3 none :: AW) ({ frames := 1, cells := 0, slots := 0, locals := 24 }) (va_Pc [.ref h, .int (nI oo)] (pre_ D [(h, .inr (6, [.ref st, .int (nI fx), .ref fl, .ref fn, .ref li, .int (nI le), .ref rc, .int (nI rn_), .int rb])), (st, .inr (3, [.ref kd, .ref it, .ref pa])), (kd, .inl (cI, 256, .inl fkd)), (it, .inl (cI, 256, .inl fit))] [(cI, .int), (cZ, .boolean), (cJ, .long)] sz)) (va_Qv (fun (u : (Nat → Int32) × (Nat → Int32)) => u.1 = CLR fkd oo (-1) 8 ∧ u.2 = CLR fit oo 0 8) (fun u t => match u with | (g1, g2) => post_ D (va_A [(h, .inr (6, [.ref st, .int (nI fx), .ref fl, .ref fn, .ref li, .int (nI le), .ref rc, .int (nI rn_), .int rb])), (st, .inr (3, [.ref kd, .ref it, .ref pa])), (kd, .inl (cI, 256, .inl fkd)), (it, .inl (cI, 256, .inl fit))] sz) [(h, .inr (6, [.ref st, .int (nI fx), .ref fl, .ref fn, .ref li, .int (nI le), .ref rc, .int (nI rn_), .int rb])), (st, .inr (3, [.ref kd, .ref it, .ref pa])), (kd, .inl (cI, 256, .inl g1)), (it, .inl (cI, 256, .inl g2))] t) (va_A [(h, .inr (6, [.ref st, .int (nI fx), .ref fl, .ref fn, .ref li, .int (nI le), .ref rc, .int (nI rn_), .int rb])), (st, .inr (3, [.ref kd, .ref it, .ref pa])), (kd, .inl (cI, 256, .inl fkd)), (it, .inl (cI, 256, .inl fit))] sz)) 0 0 (va_A [(h, .inr (6, [.ref st, .int (nI fx), .ref fl, .ref fn, .ref li, .int (nI le), .ref rc, .int (nI rn_), .int rb])), (st, .inr (3, [.ref kd, .ref it, .ref pa])), (kd, .inl (cI, 256, .inl fkd)), (it, .inl (cI, 256, .inl fit))] sz) := by
  refine Met.ofW (cc := prog_8_method_11_code) (maxL := 3) (ret := none) (by decide) rfl ?_
  intro p e s m args below meth c s₁ B hml hv
  obtain ⟨rfl, rfl, hP, hK, hD0, hT⟩ := hv
  have hx := B.exec
  have hb := B.bytes
  have hr := B.returns
  have hts0 := atoms_spec (ws := .code y_World_clearOwn prog_8_method_11_code 3 none :: AW) B.pre
  have hts : ∀ w ∈ AW, w.before [.ref h, .int (nI oo)].toArray s = true := fun w h => hts0 w (List.mem_cons_of_mem _ h)
  have hown : s.vm.findClass "TaleMachine$World" = some m.cls := findClass_of_methodNamed B.named
  have hlocks := B.notSynchronized
  have hD := hD0.self (sz := s.heap.size)
  generalize hAe : va_A [(h, .inr (6, [.ref st, .int (nI fx), .ref fl, .ref fn, .ref li, .int (nI le), .ref rc, .int (nI rn_), .int rb])), (st, .inr (3, [.ref kd, .ref it, .ref pa])), (kd, .inl (cI, 256, .inl fkd)), (it, .inl (cI, 256, .inl fit))] s.heap.size = A at hD ⊢
  have hA : ∀ q : Nat, s.heap.size ≤ q → A q := fun q h => by rw [← hAe]; exact Or.inr h
  have hS : va_S A s.heap s.heap [] := va_S.rf
  have hl := lv_entry ([.ref h, .int (nI oo)]) (n := 3) (Nat.le_of_ble_eq_true rfl)
  rw [lg_entry_eq]
  generalize (lg_sl ([.ref h, .int (nI oo)]) ++ List.replicate (3 - (lg_sl ([.ref h, .int (nI oo)])).length) Slot.unset).toArray = ls at hl ⊢
  have hl : lv_has ls 3 [(0, .ref h), (1, .int (nI oo))] := hl
  refine lv_iconst (v := 0) hx hb d_World_clearOwn_0 (by decide) ?_
  refine lv_istore_n (lv' := [(2, .int 0), (0, .ref h), (1, .int (nI oo))]) hx hb d_World_clearOwn_1 rfl hl (by decide) rfl (fun ls hl => ?_)
  refine lp_W (I := fun k1 H locs ls => ∃ g1 : Nat → Int32, ∃ g2 : Nat → Int32, (g1 = CLR fkd oo (-1) k1 ∧ g2 = CLR fit oo 0 k1) ∧ va_P D cL [(h, .inr (6, [.ref st, .int (nI fx), .ref fl, .ref fn, .ref li, .int (nI le), .ref rc, .int (nI rn_), .int rb])), (st, .inr (3, [.ref kd, .ref it, .ref pa])), (kd, .inl (cI, 256, .inl g1)), (it, .inl (cI, 256, .inl g2))] H ∧ va_D A [(h, .inr (6, [.ref st, .int (nI fx), .ref fl, .ref fn, .ref li, .int (nI le), .ref rc, .int (nI rn_), .int rb])), (st, .inr (3, [.ref kd, .ref it, .ref pa])), (kd, .inl (cI, 256, .inl g1)), (it, .inl (cI, 256, .inl g2))] ∧ va_S A s.heap H locs ∧ lv_has ls 3 [(2, .int (nI k1)), (0, .ref h), (1, .int (nI oo))]) (a := 0) (b := 8) (by omega) ?_ _ _ _ ⟨fkd, fit, ⟨rfl, rfl⟩, hP, hD, hS, lv_sub hl [0, 1, 2] rfl⟩
  intro k1 H locs ls hkak1 hkbk1 hI ih2
  obtain ⟨g1, g2, hIk1, hP, hD, hS, hl⟩ := hI
  rcases Nat.lt_or_ge k1 8 with hkk1 | hkk1
  · refine lv_iload_n hx hb d_World_clearOwn_2 rfl (lv_at hl 0 rfl) ?_
    refine lv_bipush (v := 8) hx hb d_World_clearOwn_3 (by decide) ?_
    refine lv_icmp_ge hx hb d_World_clearOwn_5 (tgt := 22) (by decide) (fun hc3 => ?_) (fun hc3 => ?_)
    · have hc3N : 8 ≤ k1 := (nI_leI (a := 8) (b := k1) (by omega) (by omega)).mp hc3
      exact absurd hc3N (by omega)
    · have hc3N : ¬ 8 ≤ k1 := fun z9 => hc3 ((nI_leI (a := 8) (b := k1) (by omega) (by omega)).mpr z9)
      refine lv_aload_n hx hb d_World_clearOwn_8 rfl (lv_at hl 1 rfl) ?_
      refine lv_iload_n hx hb d_World_clearOwn_9 rfl (lv_at hl 2 rfl) ?_
      refine lv_iload_n hx hb d_World_clearOwn_10 rfl (lv_at hl 0 rfl) ?_
      refine lv_iconst (v := (-1)) hx hb d_World_clearOwn_11 (by decide) ?_
      refine lv_iconst (v := 0) hx hb d_World_clearOwn_12 (by decide) ?_
      refine mv_v (va_runV (C := "TaleMachine$World") (As := [.int (nI oo), .int (nI k1), .int (-1), .int 0]) (rest := []) ⟨hx, hb, hml, hown, hts⟩ (w_setOwn l D cI cZ cJ h st fl fn li rc kd it pa fx le rn_ rb oo k1 (-1) 0 g1 g2 _ (by first | assumption | omega | decide) (by first | assumption | omega | decide)) (cwV 4 hts (gInV k_385 k_357 k_358 k_3 k_359) rfl rfl rfl (by decide +kernel) ⟨Nat.le_of_ble_eq_true rfl, Nat.le_of_ble_eq_true rfl⟩) (pre_V (va_recv hK hP (q := ("TaleMachine$World", F_World, 9)) rfl (q0 := 0) rfl) (hP.sub [0, 1, 2, 3] rfl) (hK.sub [0, 1, 2] rfl) (hD.sub [0, 1, 2, 3] (by decide) rfl) hT) rfl rfl hl.1 rfl (lv_room (Nat.le_of_ble_eq_true rfl)) d_World_clearOwn_13 ⟨Nat.le_of_ble_eq_true rfl, Nat.le_of_ble_eq_true rfl⟩) hP hD hS hA [0, 1, 2, 3] [] rfl rfl (by decide) (by decide) (wr := []) (wn := fun _ => [(h, .inr (6, [.ref st, .int (nI fx), .ref fl, .ref fn, .ref li, .int (nI le), .ref rc, .int (nI rn_), .int rb])), (st, .inr (3, [.ref kd, .ref it, .ref pa])), (kd, .inl (cI, 256, .inl (upd g1 ((oo * 8) + k1) (-1)))), (it, .inl (cI, 256, .inl (upd g2 ((oo * 8) + k1) 0)))]) (fun _ _ h9 => h9) (fun _ H locs hp5 hP hD hS => ?_)
      have hP : va_P D cL [(h, .inr (6, [.ref st, .int (nI fx), .ref fl, .ref fn, .ref li, .int (nI le), .ref rc, .int (nI rn_), .int rb])), (st, .inr (3, [.ref kd, .ref it, .ref pa])), (kd, .inl (cI, 256, .inl (upd g1 ((oo * 8) + k1) (-1)))), (it, .inl (cI, 256, .inl (upd g2 ((oo * 8) + k1) 0)))] H := hP
      have hD : va_D A [(h, .inr (6, [.ref st, .int (nI fx), .ref fl, .ref fn, .ref li, .int (nI le), .ref rc, .int (nI rn_), .int rb])), (st, .inr (3, [.ref kd, .ref it, .ref pa])), (kd, .inl (cI, 256, .inl (upd g1 ((oo * 8) + k1) (-1)))), (it, .inl (cI, 256, .inl (upd g2 ((oo * 8) + k1) 0)))] := hD
      refine lv_iinc (v := (nI (k1 + 1))) (lv' := [(2, .int (nI (k1 + 1))), (0, .ref h), (1, .int (nI oo))]) hx hb d_World_clearOwn_16 hl (k := 0) rfl (nI_1 k1) (by decide) rfl (fun ls hl => ?_)
      refine lv_goto hx hb d_World_clearOwn_19 (tgt := 2) (by decide) ?_
      exact ih2 hkk1 _ _ _ ⟨_, _, ⟨by rw [hIk1.1]; rfl, by rw [hIk1.2]; rfl⟩, hP, hD, hS, lv_sub hl [0, 1, 2] rfl⟩
  · have hkk1 : k1 = 8 := by omega
    refine lv_iload_n hx hb d_World_clearOwn_2 rfl (lv_at hl 0 rfl) ?_
    refine lv_bipush (v := 8) hx hb d_World_clearOwn_3 (by decide) ?_
    refine lv_icmp_ge hx hb d_World_clearOwn_5 (tgt := 22) (by decide) (fun hc6 => ?_) (fun hc6 => ?_)
    · have hc6N : 8 ≤ k1 := (nI_leI (a := 8) (b := k1) (by omega) (by omega)).mp hc6
      exact end_v hx hb hr hlocks hS (u := (g1, g2)) (at_end (hP.sub (ws' := [(h, .inr (6, [.ref st, .int (nI fx), .ref fl, .ref fn, .ref li, .int (nI le), .ref rc, .int (nI rn_), .int rb])), (st, .inr (3, [.ref kd, .ref it, .ref pa])), (kd, .inl (cI, 256, .inl g1)), (it, .inl (cI, 256, .inl g2))]) [0, 1, 2, 3] rfl) (hD.sub (ws' := [(h, .inr (6, [.ref st, .int (nI fx), .ref fl, .ref fn, .ref li, .int (nI le), .ref rc, .int (nI rn_), .int rb])), (st, .inr (3, [.ref kd, .ref it, .ref pa])), (kd, .inl (cI, 256, .inl g1)), (it, .inl (cI, 256, .inl g2))]) [0, 1, 2, 3] (by decide) rfl)) (⟨by rw [hIk1.1, hkk1], by rw [hIk1.2, hkk1]⟩) (Nat.le_of_ble_eq_true rfl) (Nat.le_of_ble_eq_true rfl) d_World_clearOwn_22
    · have hc6N : ¬ 8 ≤ k1 := fun z9 => hc6 ((nI_leI (a := 8) (b := k1) (by omega) (by omega)).mpr z9)
      exact absurd hc6N (by omega)

set_option maxHeartbeats 4000000 in
set_option maxRecDepth 100000 in
theorem y_make (l : Launch) (D : va_G) (cI cZ cJ : ClassId) (h st fl fn li rc kd it pa : Nat) (fx le rn_ : Nat) (rb : Int32) (pr : Int32) (fkd fit fpa ffl ffn : Nat → Int32) (f_ : Nat → Int32) (sz : Nat) (hc : CW f_ fx ffl ffn fpa) : Met l y_World_make (.code y_World_make prog_8_method_10_code 3 (some .int) :: AW) ({ frames := 2, cells := 0, slots := 0, locals := 46 }) (va_Pc [.ref h, .int pr] (pre_ D [(h, .inr (6, [.ref st, .int (nI fx), .ref fl, .ref fn, .ref li, .int (nI le), .ref rc, .int (nI rn_), .int rb])), (st, .inr (3, [.ref kd, .ref it, .ref pa])), (kd, .inl (cI, 256, .inl fkd)), (it, .inl (cI, 256, .inl fit)), (pa, .inl (cI, 16, .inl fpa))] [(cI, .int), (cZ, .boolean), (cJ, .long)] sz)) (va_Qi (fun (r : Int32) (u : (Nat → Int32) × (Nat → Int32) × (Nat → Int32)) => (r = -1 ∧ ¬ lowf f_ 16 16 < 32 ∧ u = (fpa, fkd, fit)) ∨ (16 ≤ lowf f_ 16 16 ∧ lowf f_ 16 16 < 32 ∧ r = nI (lowf f_ 16 16) ∧ u = (upd fpa (lowf f_ 16 16 - 16) pr, CLR fkd (lowf f_ 16 16) (-1) 8, CLR fit (lowf f_ 16 16) 0 8))) (fun u t => match u with | (g0, g1, g2) => post_ D (va_A [(h, .inr (6, [.ref st, .int (nI fx), .ref fl, .ref fn, .ref li, .int (nI le), .ref rc, .int (nI rn_), .int rb])), (st, .inr (3, [.ref kd, .ref it, .ref pa])), (kd, .inl (cI, 256, .inl fkd)), (it, .inl (cI, 256, .inl fit)), (pa, .inl (cI, 16, .inl fpa))] sz) [(h, .inr (6, [.ref st, .int (nI fx), .ref fl, .ref fn, .ref li, .int (nI le), .ref rc, .int (nI rn_), .int rb])), (st, .inr (3, [.ref kd, .ref it, .ref pa])), (pa, .inl (cI, 16, .inl g0)), (kd, .inl (cI, 256, .inl g1)), (it, .inl (cI, 256, .inl g2))] t) (va_A [(h, .inr (6, [.ref st, .int (nI fx), .ref fl, .ref fn, .ref li, .int (nI le), .ref rc, .int (nI rn_), .int rb])), (st, .inr (3, [.ref kd, .ref it, .ref pa])), (kd, .inl (cI, 256, .inl fkd)), (it, .inl (cI, 256, .inl fit)), (pa, .inl (cI, 16, .inl fpa))] sz)) 0 0 (va_A [(h, .inr (6, [.ref st, .int (nI fx), .ref fl, .ref fn, .ref li, .int (nI le), .ref rc, .int (nI rn_), .int rb])), (st, .inr (3, [.ref kd, .ref it, .ref pa])), (kd, .inl (cI, 256, .inl fkd)), (it, .inl (cI, 256, .inl fit)), (pa, .inl (cI, 16, .inl fpa))] sz) := by
  refine Met.ofW (cc := prog_8_method_10_code) (maxL := 3) (ret := (some .int)) (by decide) rfl ?_
  intro p e s m args below meth c s₁ B hml hv
  obtain ⟨rfl, rfl, hP, hK, hD0, hT⟩ := hv
  have hx := B.exec
  have hb := B.bytes
  have hr := B.returns
  have hts0 := atoms_spec (ws := .code y_World_make prog_8_method_10_code 3 (some .int) :: AW) B.pre
  have hts : ∀ w ∈ AW, w.before [.ref h, .int pr].toArray s = true := fun w h => hts0 w (List.mem_cons_of_mem _ h)
  have hown : s.vm.findClass "TaleMachine$World" = some m.cls := findClass_of_methodNamed B.named
  have hlocks := B.notSynchronized
  have hD := hD0.self (sz := s.heap.size)
  generalize hAe : va_A [(h, .inr (6, [.ref st, .int (nI fx), .ref fl, .ref fn, .ref li, .int (nI le), .ref rc, .int (nI rn_), .int rb])), (st, .inr (3, [.ref kd, .ref it, .ref pa])), (kd, .inl (cI, 256, .inl fkd)), (it, .inl (cI, 256, .inl fit)), (pa, .inl (cI, 16, .inl fpa))] s.heap.size = A at hD ⊢
  have hA : ∀ q : Nat, s.heap.size ≤ q → A q := fun q h => by rw [← hAe]; exact Or.inr h
  have hS : va_S A s.heap s.heap [] := va_S.rf
  have hl := lv_entry ([.ref h, .int pr]) (n := 3) (Nat.le_of_ble_eq_true rfl)
  rw [lg_entry_eq]
  generalize (lg_sl ([.ref h, .int pr]) ++ List.replicate (3 - (lg_sl ([.ref h, .int pr])).length) Slot.unset).toArray = ls at hl ⊢
  have hl : lv_has ls 3 [(0, .ref h), (1, .int pr)] := hl
  have hm9 : ∀ o, 16 ≤ o → o < 32 → (f_ (29 * o) = 1 ↔ ¬ fpa (o - 16) = -1) := fun o h8 h9 => (hc.2.2.2.2 o h8 h9).2.1
  refine lv_iconst (v := 0) hx hb d_World_make_0 (by decide) ?_
  refine lv_istore_n (lv' := [(2, .int 0), (0, .ref h), (1, .int pr)]) hx hb d_World_make_1 rfl hl (by decide) rfl (fun ls hl => ?_)
  refine lp_W (I := fun k1 H locs ls => (lowf f_ (16 - k1) (16 + k1) = lowf f_ 16 16) ∧ va_P D cL [(h, .inr (6, [.ref st, .int (nI fx), .ref fl, .ref fn, .ref li, .int (nI le), .ref rc, .int (nI rn_), .int rb])), (st, .inr (3, [.ref kd, .ref it, .ref pa])), (kd, .inl (cI, 256, .inl fkd)), (it, .inl (cI, 256, .inl fit)), (pa, .inl (cI, 16, .inl fpa))] H ∧ va_D A [(h, .inr (6, [.ref st, .int (nI fx), .ref fl, .ref fn, .ref li, .int (nI le), .ref rc, .int (nI rn_), .int rb])), (st, .inr (3, [.ref kd, .ref it, .ref pa])), (kd, .inl (cI, 256, .inl fkd)), (it, .inl (cI, 256, .inl fit)), (pa, .inl (cI, 16, .inl fpa))] ∧ va_S A s.heap H locs ∧ lv_has ls 3 [(2, .int (nI k1)), (0, .ref h), (1, .int pr)]) (a := 0) (b := 16) (by omega) ?_ _ _ _ ⟨rfl, hP, hD, hS, lv_sub hl [0, 1, 2] rfl⟩
  intro k1 H locs ls hkak1 hkbk1 hI ih2
  obtain ⟨hIk1, hP, hD, hS, hl⟩ := hI
  rcases Nat.lt_or_ge k1 16 with hkk1 | hkk1
  · refine lv_iload_n hx hb d_World_make_2 rfl (lv_at hl 0 rfl) ?_
    refine lv_bipush (v := 16) hx hb d_World_make_3 (by decide) ?_
    refine lv_icmp_ge hx hb d_World_make_5 (tgt := 50) (by decide) (fun hc3 => ?_) (fun hc3 => ?_)
    · have hc3N : 16 ≤ k1 := (nI_leI (a := 16) (b := k1) (by omega) (by omega)).mp hc3
      exact absurd hc3N (by omega)
    · have hc3N : ¬ 16 ≤ k1 := fun z9 => hc3 ((nI_leI (a := 16) (b := k1) (by omega) (by omega)).mpr z9)
      refine lv_aload_n hx hb d_World_make_8 rfl (lv_at hl 1 rfl) ?_
      refine va_get (D := D) (ci := 6) (v := .ref st) (C := "TaleMachine$World") (T := F_World) (N := 9) hx hb hts in_World hown hK hP 0 rfl rfl 0 (by decide) (hts _ k_60) (fun _ h9 => h9) rfl d_World_make_9 ?_
      refine va_get (D := D) (ci := 3) (v := .ref pa) (C := "TaleMachine$State") (T := F_State) (N := 3) hx hb hts in_State hown hK hP 1 rfl rfl 2 (by decide) (hts _ k_56) (fun _ h9 => h9) rfl d_World_make_12 ?_
      refine lv_iload_n hx hb d_World_make_15 rfl (lv_at hl 0 rfl) ?_
      refine ia_ld hx hb hK hP 4 0 rfl rfl (k := k1) (by omega) (by first | decide | assumption) d_World_make_16 ?_
      refine lv_iconst (v := (-1)) hx hb d_World_make_17 (by decide) ?_
      refine lv_icmp_ne hx hb d_World_make_18 (tgt := 44) (by decide) (fun hc4 => ?_) (fun hc4 => ?_)
      · refine lv_iinc (v := (nI (k1 + 1))) (lv' := [(2, .int (nI (k1 + 1))), (0, .ref h), (1, .int pr)]) hx hb d_World_make_44 hl (k := 0) rfl (nI_1 k1) (by decide) rfl (fun ls hl => ?_)
        refine lv_goto hx hb d_World_make_47 (tgt := 2) (by decide) ?_
        exact ih2 hkk1 _ _ _ ⟨(lowf_c hkk1 hm9 hc4).trans hIk1, hP, hD, hS, lv_sub hl [0, 1, 2] rfl⟩
      · refine lv_aload_n hx hb d_World_make_21 rfl (lv_at hl 1 rfl) ?_
        refine va_get (D := D) (ci := 6) (v := .ref st) (C := "TaleMachine$World") (T := F_World) (N := 9) hx hb hts in_World hown hK hP 0 rfl rfl 0 (by decide) (hts _ k_60) (fun _ h9 => h9) rfl d_World_make_22 ?_
        refine va_get (D := D) (ci := 3) (v := .ref pa) (C := "TaleMachine$State") (T := F_State) (N := 3) hx hb hts in_State hown hK hP 1 rfl rfl 2 (by decide) (hts _ k_56) (fun _ h9 => h9) rfl d_World_make_25 ?_
        refine lv_iload_n hx hb d_World_make_28 rfl (lv_at hl 0 rfl) ?_
        refine lv_iload_n hx hb d_World_make_29 rfl (lv_at hl 2 rfl) ?_
        refine ia_st hx hb hK hP hD hS 4 0 rfl rfl (k := k1) (x := pr) (by omega) (by first | decide | assumption) d_World_make_30 (fun H locs hP hD hS => ?_)
        have hP : va_P D cL [(h, .inr (6, [.ref st, .int (nI fx), .ref fl, .ref fn, .ref li, .int (nI le), .ref rc, .int (nI rn_), .int rb])), (st, .inr (3, [.ref kd, .ref it, .ref pa])), (kd, .inl (cI, 256, .inl fkd)), (it, .inl (cI, 256, .inl fit)), (pa, .inl (cI, 16, .inl (upd fpa k1 pr)))] H := hP
        have hD : va_D A [(h, .inr (6, [.ref st, .int (nI fx), .ref fl, .ref fn, .ref li, .int (nI le), .ref rc, .int (nI rn_), .int rb])), (st, .inr (3, [.ref kd, .ref it, .ref pa])), (kd, .inl (cI, 256, .inl fkd)), (it, .inl (cI, 256, .inl fit)), (pa, .inl (cI, 16, .inl (upd fpa k1 pr)))] := hD
        refine lv_aload_n hx hb d_World_make_31 rfl (lv_at hl 1 rfl) ?_
        refine lv_bipush (v := 16) hx hb d_World_make_32 (by decide) ?_
        refine lv_iload_n hx hb d_World_make_34 rfl (lv_at hl 0 rfl) ?_
        refine lv_iadd hx hb d_World_make_35 ?_
        refine lv_topi (fun z5 hz5 => ?_)
        obtain rfl : z5 = nI (16 + k1) := hz5.trans (nI_add 16 k1)
        refine mv_v (va_runV (C := "TaleMachine$World") (As := [.int (nI (16 + k1))]) (rest := []) ⟨hx, hb, hml, hown, hts⟩ (y_clearOwn l D cI cZ cJ h st fl fn li rc kd it pa fx le rn_ rb (16 + k1) fkd fit _ (by first | assumption | omega | decide)) (cwV 1 hts (gInV k_382 k_383 k_893 k_3 k_384) rfl rfl rfl (by decide +kernel) ⟨Nat.le_of_ble_eq_true rfl, Nat.le_of_ble_eq_true rfl⟩) (pre_V (va_recv hK hP (q := ("TaleMachine$World", F_World, 9)) rfl (q0 := 0) rfl) (hP.sub [0, 1, 2, 3] rfl) (hK.sub [0, 1, 2] rfl) (hD.sub [0, 1, 2, 3] (by decide) rfl) hT) rfl rfl hl.1 rfl (lv_room (Nat.le_of_ble_eq_true rfl)) d_World_make_36 ⟨Nat.le_of_ble_eq_true rfl, Nat.le_of_ble_eq_true rfl⟩) hP hD hS hA [0, 1, 2, 3] [4] rfl rfl (by decide) (by decide) (wr := [(pa, .inl (cI, 16, .inl (upd fpa k1 pr)))]) (wn := fun u => match u with | (g1, g2) => [(h, .inr (6, [.ref st, .int (nI fx), .ref fl, .ref fn, .ref li, .int (nI le), .ref rc, .int (nI rn_), .int rb])), (st, .inr (3, [.ref kd, .ref it, .ref pa])), (kd, .inl (cI, 256, .inl g1)), (it, .inl (cI, 256, .inl g2))]) (fun _ _ h9 => h9) (fun u H locs hp9 hP hD hS => ?_)
        obtain ⟨a6, a7⟩ := u
        dsimp only at hp9
        have hP : va_P D cL [(pa, .inl (cI, 16, .inl (upd fpa k1 pr))), (h, .inr (6, [.ref st, .int (nI fx), .ref fl, .ref fn, .ref li, .int (nI le), .ref rc, .int (nI rn_), .int rb])), (st, .inr (3, [.ref kd, .ref it, .ref pa])), (kd, .inl (cI, 256, .inl a6)), (it, .inl (cI, 256, .inl a7))] H := hP
        have hD : va_D A [(pa, .inl (cI, 16, .inl (upd fpa k1 pr))), (h, .inr (6, [.ref st, .int (nI fx), .ref fl, .ref fn, .ref li, .int (nI le), .ref rc, .int (nI rn_), .int rb])), (st, .inr (3, [.ref kd, .ref it, .ref pa])), (kd, .inl (cI, 256, .inl a6)), (it, .inl (cI, 256, .inl a7))] := hD
        obtain ⟨hp9_0, hp9_1⟩ := hp9
        have hp9_0 : a6 = CLR fkd (16 + k1) (-1) 8 := hp9_0
        subst hp9_0
        have hp9_1 : a7 = CLR fit (16 + k1) 0 8 := hp9_1
        subst hp9_1
        have hP : va_P D cL [(pa, .inl (cI, 16, .inl (upd fpa k1 pr))), (h, .inr (6, [.ref st, .int (nI fx), .ref fl, .ref fn, .ref li, .int (nI le), .ref rc, .int (nI rn_), .int rb])), (st, .inr (3, [.ref kd, .ref it, .ref pa])), (kd, .inl (cI, 256, .inl (CLR fkd (16 + k1) (-1) 8))), (it, .inl (cI, 256, .inl (CLR fit (16 + k1) 0 8)))] H := hP
        have hD : va_D A [(pa, .inl (cI, 16, .inl (upd fpa k1 pr))), (h, .inr (6, [.ref st, .int (nI fx), .ref fl, .ref fn, .ref li, .int (nI le), .ref rc, .int (nI rn_), .int rb])), (st, .inr (3, [.ref kd, .ref it, .ref pa])), (kd, .inl (cI, 256, .inl (CLR fkd (16 + k1) (-1) 8))), (it, .inl (cI, 256, .inl (CLR fit (16 + k1) 0 8)))] := hD
        refine lv_bipush (v := 16) hx hb d_World_make_39 (by decide) ?_
        refine lv_iload_n hx hb d_World_make_41 rfl (lv_at hl 0 rfl) ?_
        refine lv_iadd hx hb d_World_make_42 ?_
        refine lv_topi (fun z10 hz10 => ?_)
        obtain rfl : z10 = nI (16 + k1) := hz10.trans (nI_add 16 k1)
        exact end_i hx hb hr hlocks hS (u := (upd fpa k1 pr, CLR fkd (16 + k1) (-1) 8, CLR fit (16 + k1) 0 8)) (r := (nI (16 + k1))) (at_end (hP.sub (ws' := [(h, .inr (6, [.ref st, .int (nI fx), .ref fl, .ref fn, .ref li, .int (nI le), .ref rc, .int (nI rn_), .int rb])), (st, .inr (3, [.ref kd, .ref it, .ref pa])), (pa, .inl (cI, 16, .inl (upd fpa k1 pr))), (kd, .inl (cI, 256, .inl (CLR fkd (16 + k1) (-1) 8))), (it, .inl (cI, 256, .inl (CLR fit (16 + k1) 0 8)))]) [1, 2, 0, 3, 4] rfl) (hD.sub (ws' := [(h, .inr (6, [.ref st, .int (nI fx), .ref fl, .ref fn, .ref li, .int (nI le), .ref rc, .int (nI rn_), .int rb])), (st, .inr (3, [.ref kd, .ref it, .ref pa])), (pa, .inl (cI, 16, .inl (upd fpa k1 pr))), (kd, .inl (cI, 256, .inl (CLR fkd (16 + k1) (-1) 8))), (it, .inl (cI, 256, .inl (CLR fit (16 + k1) 0 8)))]) [1, 2, 0, 3, 4] (by decide) rfl)) ((by have z9 := (hIk1).symm.trans (lowf_d hkk1 hm9 hc4); rw [z9, show 16 + k1 - 16 = k1 from by omega]; exact Or.inr ⟨by omega, by omega, rfl, rfl⟩)) (Nat.le_of_ble_eq_true rfl) (Nat.le_of_ble_eq_true rfl) d_World_make_43
  · have hkk1 : k1 = 16 := by omega
    refine lv_iload_n hx hb d_World_make_2 rfl (lv_at hl 0 rfl) ?_
    refine lv_bipush (v := 16) hx hb d_World_make_3 (by decide) ?_
    refine lv_icmp_ge hx hb d_World_make_5 (tgt := 50) (by decide) (fun hc11 => ?_) (fun hc11 => ?_)
    · have hc11N : 16 ≤ k1 := (nI_leI (a := 16) (b := k1) (by omega) (by omega)).mp hc11
      refine lv_iconst (v := (-1)) hx hb d_World_make_50 (by decide) ?_
      exact end_i hx hb hr hlocks hS (u := (fpa, fkd, fit)) (r := (-1)) (at_end (hP.sub (ws' := [(h, .inr (6, [.ref st, .int (nI fx), .ref fl, .ref fn, .ref li, .int (nI le), .ref rc, .int (nI rn_), .int rb])), (st, .inr (3, [.ref kd, .ref it, .ref pa])), (pa, .inl (cI, 16, .inl fpa)), (kd, .inl (cI, 256, .inl fkd)), (it, .inl (cI, 256, .inl fit))]) [0, 1, 4, 2, 3] rfl) (hD.sub (ws' := [(h, .inr (6, [.ref st, .int (nI fx), .ref fl, .ref fn, .ref li, .int (nI le), .ref rc, .int (nI rn_), .int rb])), (st, .inr (3, [.ref kd, .ref it, .ref pa])), (pa, .inl (cI, 16, .inl fpa)), (kd, .inl (cI, 256, .inl fkd)), (it, .inl (cI, 256, .inl fit))]) [0, 1, 4, 2, 3] (by decide) rfl)) (Or.inl ⟨rfl, by rw [← hIk1, hkk1]; exact Nat.lt_irrefl 32, rfl⟩) (Nat.le_of_ble_eq_true rfl) (Nat.le_of_ble_eq_true rfl) d_World_make_51
    · have hc11N : ¬ 16 ≤ k1 := fun z9 => hc11 ((nI_leI (a := 16) (b := k1) (by omega) (by omega)).mpr z9)
      exact absurd hc11N (by omega)

