set_option maxHeartbeats 4000000 in
set_option maxRecDepth 100000 in
theorem y_lay (l : Launch) (D : va_G) (cI cZ cJ : ClassId) (h st fl fn li rc kd it pa : Nat) (fx le rn_ : Nat) (rb : Int32) (oo : Nat) (fpa ffl ffn fli : Nat → Int32) (f_ : Nat → Int32) (sz : Nat) (hc : CW f_ fx ffl ffn fpa) (hfl : FLL ffl) (ho : oo < 32) (h1 : f_ (29 * oo) = 1) : Met l y_World_lay (.code y_World_lay prog_8_method_12_code 3 none :: AW) ({ frames := 1, cells := 0, slots := 0, locals := 140 }) (va_Pc [.ref h, .int (nI oo)] (pre_ D [(h, .inr (6, [.ref st, .int (nI fx), .ref fl, .ref fn, .ref li, .int (nI le), .ref rc, .int (nI rn_), .int rb])), (st, .inr (3, [.ref kd, .ref it, .ref pa])), (pa, .inl (cI, 16, .inl fpa)), (fl, .inl (cI, 256, .inl ffl)), (fn, .inl (cI, 16, .inl ffn)), (li, .inl (cI, 32, .inl fli))] [(cI, .int), (cZ, .boolean), (cJ, .long)] sz)) (va_Qv (fun (u : Nat × (Nat → Int32)) => u.1 ≤ 32 ∧ ROW u.2 u.1 ∧ lst u.2 u.1 = (LNE f_ oo).reverse) (fun u t => match u with | (le2, g) => post_ D (va_A [(h, .inr (6, [.ref st, .int (nI fx), .ref fl, .ref fn, .ref li, .int (nI le), .ref rc, .int (nI rn_), .int rb])), (st, .inr (3, [.ref kd, .ref it, .ref pa])), (pa, .inl (cI, 16, .inl fpa)), (fl, .inl (cI, 256, .inl ffl)), (fn, .inl (cI, 16, .inl ffn)), (li, .inl (cI, 32, .inl fli))] sz) [(h, .inr (6, [.ref st, .int (nI fx), .ref fl, .ref fn, .ref li, .int (nI le2), .ref rc, .int (nI rn_), .int rb])), (st, .inr (3, [.ref kd, .ref it, .ref pa])), (pa, .inl (cI, 16, .inl fpa)), (fl, .inl (cI, 256, .inl ffl)), (fn, .inl (cI, 16, .inl ffn)), (li, .inl (cI, 32, .inl g))] t) (va_A [(h, .inr (6, [.ref st, .int (nI fx), .ref fl, .ref fn, .ref li, .int (nI le), .ref rc, .int (nI rn_), .int rb])), (st, .inr (3, [.ref kd, .ref it, .ref pa])), (pa, .inl (cI, 16, .inl fpa)), (fl, .inl (cI, 256, .inl ffl)), (fn, .inl (cI, 16, .inl ffn)), (li, .inl (cI, 32, .inl fli))] sz)) 0 0 (va_A [(h, .inr (6, [.ref st, .int (nI fx), .ref fl, .ref fn, .ref li, .int (nI le), .ref rc, .int (nI rn_), .int rb])), (st, .inr (3, [.ref kd, .ref it, .ref pa])), (pa, .inl (cI, 16, .inl fpa)), (fl, .inl (cI, 256, .inl ffl)), (fn, .inl (cI, 16, .inl ffn)), (li, .inl (cI, 32, .inl fli))] sz) := by
  refine Met.ofW (cc := prog_8_method_12_code) (maxL := 3) (ret := none) (by decide) rfl ?_
  intro p e s m args below meth c s₁ B hml hv
  obtain ⟨rfl, rfl, hP, hK, hD0, hT⟩ := hv
  have hx := B.exec
  have hb := B.bytes
  have hr := B.returns
  have hts0 := atoms_spec (ws := .code y_World_lay prog_8_method_12_code 3 none :: AW) B.pre
  have hts : ∀ w ∈ AW, w.before [.ref h, .int (nI oo)].toArray s = true := fun w h => hts0 w (List.mem_cons_of_mem _ h)
  have hown : s.vm.findClass "TaleMachine$World" = some m.cls := findClass_of_methodNamed B.named
  have hlocks := B.notSynchronized
  have hD := hD0.self (sz := s.heap.size)
  generalize hAe : va_A [(h, .inr (6, [.ref st, .int (nI fx), .ref fl, .ref fn, .ref li, .int (nI le), .ref rc, .int (nI rn_), .int rb])), (st, .inr (3, [.ref kd, .ref it, .ref pa])), (pa, .inl (cI, 16, .inl fpa)), (fl, .inl (cI, 256, .inl ffl)), (fn, .inl (cI, 16, .inl ffn)), (li, .inl (cI, 32, .inl fli))] s.heap.size = A at hD ⊢
  have hA : ∀ q : Nat, s.heap.size ≤ q → A q := fun q h => by rw [← hAe]; exact Or.inr h
  have hS : va_S A s.heap s.heap [] := va_S.rf
  have hl := lv_entry ([.ref h, .int (nI oo)]) (n := 3) (Nat.le_of_ble_eq_true rfl)
  rw [lg_entry_eq]
  generalize (lg_sl ([.ref h, .int (nI oo)]) ++ List.replicate (3 - (lg_sl ([.ref h, .int (nI oo)])).length) Slot.unset).toArray = ls at hl ⊢
  have hl : lv_has ls 3 [(0, .ref h), (1, .int (nI oo))] := hl
  have hfx := hc.2.1
  refine lv_aload_n hx hb d_World_lay_0 rfl (lv_at hl 0 rfl) ?_
  refine lv_iconst (v := 0) hx hb d_World_lay_1 (by decide) ?_
  refine va_put (D := D) (ci := 6) (v := .int 0) (ty := .int) (C := "TaleMachine$World") (T := F_World) (N := 9) hx hb hts in_World t_World t_World_ok n_World hown hK hP hD hS 0 rfl rfl 5 (by decide) (hts _ k_67) (fun _ h9 => h9) rfl (by decide +kernel) rfl rfl (Nat.le_of_ble_eq_true rfl) d_World_lay_2 (fun H locs hP hD hS => ?_)
  have hP : va_P D cL [(h, .inr (6, [.ref st, .int (nI fx), .ref fl, .ref fn, .ref li, .int 0, .ref rc, .int (nI rn_), .int rb])), (st, .inr (3, [.ref kd, .ref it, .ref pa])), (pa, .inl (cI, 16, .inl fpa)), (fl, .inl (cI, 256, .inl ffl)), (fn, .inl (cI, 16, .inl ffn)), (li, .inl (cI, 32, .inl fli))] H := hP
  have hD : va_D A [(h, .inr (6, [.ref st, .int (nI fx), .ref fl, .ref fn, .ref li, .int 0, .ref rc, .int (nI rn_), .int rb])), (st, .inr (3, [.ref kd, .ref it, .ref pa])), (pa, .inl (cI, 16, .inl fpa)), (fl, .inl (cI, 256, .inl ffl)), (fn, .inl (cI, 16, .inl ffn)), (li, .inl (cI, 32, .inl fli))] := hD
  refine lv_iload_n hx hb d_World_lay_5 rfl (lv_at hl 1 rfl) ?_
  refine lv_istore_n (lv' := [(2, .int (nI oo)), (0, .ref h), (1, .int (nI oo))]) hx hb d_World_lay_6 rfl hl (by decide) rfl (fun ls hl => ?_)
  refine lp_W (I := fun k1 H locs ls => ∃ av : Int32, ∃ g : Nat → Int32, (LAYP f_ oo av g k1 ∧ ROW g k1) ∧ va_P D cL [(h, .inr (6, [.ref st, .int (nI fx), .ref fl, .ref fn, .ref li, .int (nI k1), .ref rc, .int (nI rn_), .int rb])), (st, .inr (3, [.ref kd, .ref it, .ref pa])), (pa, .inl (cI, 16, .inl fpa)), (fl, .inl (cI, 256, .inl ffl)), (fn, .inl (cI, 16, .inl ffn)), (li, .inl (cI, 32, .inl g))] H ∧ va_D A [(h, .inr (6, [.ref st, .int (nI fx), .ref fl, .ref fn, .ref li, .int (nI k1), .ref rc, .int (nI rn_), .int rb])), (st, .inr (3, [.ref kd, .ref it, .ref pa])), (pa, .inl (cI, 16, .inl fpa)), (fl, .inl (cI, 256, .inl ffl)), (fn, .inl (cI, 16, .inl ffn)), (li, .inl (cI, 32, .inl g))] ∧ va_S A s.heap H locs ∧ lv_has ls 3 [(2, .int av), (0, .ref h), (1, .int (nI oo))]) (a := 0) (b := 16) (by omega) ?_ _ _ _ ⟨(nI oo), fli, ⟨LAYP.init ho h1, fun i hi => absurd hi (Nat.not_lt_zero i)⟩, hP, hD, hS, lv_sub hl [0, 1, 2] rfl⟩
  intro k1 H locs ls hkak1 hkbk1 hI ih2
  obtain ⟨av, g, hIk1, hP, hD, hS, hl⟩ := hI
  rcases Nat.lt_or_ge k1 16 with hkk1 | hkk1
  · refine lv_iload_n hx hb d_World_lay_7 rfl (lv_at hl 0 rfl) ?_
    refine lv_bipush (v := 16) hx hb d_World_lay_8 (by decide) ?_
    refine lv_icmp_lt hx hb d_World_lay_10 (tgt := 58) (by decide) (fun hc3 => ?_) (fun hc3 => ?_)
    · obtain ⟨a8, ea8, ha8, hl8⟩ := LAYP.low hc ho h1 hIk1.1 (Or.inr hc3)
      subst ea8
      obtain ⟨-, m9, hm9, hme, hrow⟩ := hc.2.2.1 a8 ha8
      refine lv_aload_n hx hb d_World_lay_58 rfl (lv_at hl 1 rfl) ?_
      refine lv_iload_n hx hb d_World_lay_59 rfl (lv_at hl 0 rfl) ?_
      refine mv_i (va_runV (C := "TaleMachine$World") (As := [.int (nI a8)]) (rest := []) ⟨hx, hb, hml, hown, hts⟩ (w_isFixed l D cI cZ cJ h st fl fn li rc 0 0 0 fx k1 rn_ rb (nI a8) _ (by first | assumption | omega | decide)) (cwV 1 hts (gInV k_235 k_236 k_237 k_3 k_238) rfl rfl rfl (by decide +kernel) ⟨Nat.le_of_ble_eq_true rfl, Nat.le_of_ble_eq_true rfl⟩) (pre_V (va_recv hK hP (q := ("TaleMachine$World", F_World, 9)) rfl (q0 := 0) rfl) (hP.sub [0] rfl) (hK.sub [0, 1, 2] rfl) (hD.sub [0] (by decide) rfl) hT) rfl rfl hl.1 rfl (lv_room (Nat.le_of_ble_eq_true rfl)) d_World_lay_60 ⟨Nat.le_of_ble_eq_true rfl, Nat.le_of_ble_eq_true rfl⟩) hP hD hS hA [0] [1, 2, 3, 4, 5] rfl rfl (by decide) (by decide) (wr := [(st, .inr (3, [.ref kd, .ref it, .ref pa])), (pa, .inl (cI, 16, .inl fpa)), (fl, .inl (cI, 256, .inl ffl)), (fn, .inl (cI, 16, .inl ffn)), (li, .inl (cI, 32, .inl g))]) (wn := fun _ => [(h, .inr (6, [.ref st, .int (nI fx), .ref fl, .ref fn, .ref li, .int (nI k1), .ref rc, .int (nI rn_), .int rb]))]) (fun _ _ h9 => h9) (fun r4 _ H locs hp5 hP hD hS => ?_)
      have hP : va_P D cL [(st, .inr (3, [.ref kd, .ref it, .ref pa])), (pa, .inl (cI, 16, .inl fpa)), (fl, .inl (cI, 256, .inl ffl)), (fn, .inl (cI, 16, .inl ffn)), (li, .inl (cI, 32, .inl g)), (h, .inr (6, [.ref st, .int (nI fx), .ref fl, .ref fn, .ref li, .int (nI k1), .ref rc, .int (nI rn_), .int rb]))] H := hP
      have hD : va_D A [(st, .inr (3, [.ref kd, .ref it, .ref pa])), (pa, .inl (cI, 16, .inl fpa)), (fl, .inl (cI, 256, .inl ffl)), (fn, .inl (cI, 16, .inl ffn)), (li, .inl (cI, 32, .inl g)), (h, .inr (6, [.ref st, .int (nI fx), .ref fl, .ref fn, .ref li, .int (nI k1), .ref rc, .int (nI rn_), .int rb]))] := hD
      refine lv_if_eq hx hb d_World_lay_63 (tgt := 106) (by decide) (fun hz => absurd hz (by rw [hp5.2.mpr ⟨a8, ha8, rfl⟩]; decide)) (fun _ => ?_)
      refine lv_aload_n hx hb d_World_lay_66 rfl (lv_at hl 1 rfl) ?_
      refine va_get (D := D) (ci := 6) (v := .ref fl) (C := "TaleMachine$World") (T := F_World) (N := 9) hx hb hts in_World hown hK hP 5 rfl rfl 2 (by decide) (hts _ k_64) (fun _ h9 => h9) rfl d_World_lay_67 ?_
      refine lv_iload_n hx hb d_World_lay_70 rfl (lv_at hl 0 rfl) ?_
      refine lv_bipush (v := 16) hx hb d_World_lay_71 (by decide) ?_
      refine lv_imul hx hb d_World_lay_73 ?_
      refine lv_topi (fun z6 hz6 => ?_)
      obtain rfl : z6 = nI (a8 * 16) := hz6.trans (pk_mul a8 16)
      refine lv_aload_n hx hb d_World_lay_74 rfl (lv_at hl 1 rfl) ?_
      refine va_get (D := D) (ci := 6) (v := .ref li) (C := "TaleMachine$World") (T := F_World) (N := 9) hx hb hts in_World hown hK hP 5 rfl rfl 4 (by decide) (hts _ k_66) (fun _ h9 => h9) rfl d_World_lay_75 ?_
      refine lv_aload_n hx hb d_World_lay_78 rfl (lv_at hl 1 rfl) ?_
      refine va_get (D := D) (ci := 6) (v := .int (nI k1)) (C := "TaleMachine$World") (T := F_World) (N := 9) hx hb hts in_World hown hK hP 5 rfl rfl 5 (by decide) (hts _ k_67) (fun _ h9 => h9) rfl d_World_lay_79 ?_
      refine lv_aload_n hx hb d_World_lay_82 rfl (lv_at hl 1 rfl) ?_
      refine va_get (D := D) (ci := 6) (v := .ref fn) (C := "TaleMachine$World") (T := F_World) (N := 9) hx hb hts in_World hown hK hP 5 rfl rfl 3 (by decide) (hts _ k_65) (fun _ h9 => h9) rfl d_World_lay_83 ?_
      refine lv_iload_n hx hb d_World_lay_86 rfl (lv_at hl 0 rfl) ?_
      refine ia_ld hx hb hK hP 3 0 rfl rfl (k := a8) (by omega) (by first | decide | assumption) d_World_lay_87 ?_
      refine lv_topi (fun z7 hz7 => ?_)
      obtain rfl : z7 = (nI m9) := hz7.trans (hme)
      refine ac_i (x := a8 * 16) (y := k1) (z := m9) hx hb (hml.trans hl.1.symm) hown (hts _ k_271) (hts _ k_273) (hts _ k_272) (hts _ k_17) hK hP hD hS 2 4 0 rfl rfl rfl (by omega) (by omega) (by decide) (by decide) (Nat.le_of_ble_eq_true rfl) (Nat.le_of_ble_eq_true rfl) d_World_lay_88 (fun H locs hP hD hS => ?_)
      have hP : va_P D cL [(st, .inr (3, [.ref kd, .ref it, .ref pa])), (pa, .inl (cI, 16, .inl fpa)), (fl, .inl (cI, 256, .inl ffl)), (fn, .inl (cI, 16, .inl ffn)), (li, .inl (cI, 32, .inl (va_cpy ffl g (a8 * 16) k1 m9))), (h, .inr (6, [.ref st, .int (nI fx), .ref fl, .ref fn, .ref li, .int (nI k1), .ref rc, .int (nI rn_), .int rb]))] H := hP
      have hD : va_D A [(st, .inr (3, [.ref kd, .ref it, .ref pa])), (pa, .inl (cI, 16, .inl fpa)), (fl, .inl (cI, 256, .inl ffl)), (fn, .inl (cI, 16, .inl ffn)), (li, .inl (cI, 32, .inl (va_cpy ffl g (a8 * 16) k1 m9))), (h, .inr (6, [.ref st, .int (nI fx), .ref fl, .ref fn, .ref li, .int (nI k1), .ref rc, .int (nI rn_), .int rb]))] := hD
      refine lv_aload_n hx hb d_World_lay_91 rfl (lv_at hl 1 rfl) ?_
      refine lv_dup hx hb d_World_lay_92 rfl ?_
      refine va_get (D := D) (ci := 6) (v := .int (nI k1)) (C := "TaleMachine$World") (T := F_World) (N := 9) hx hb hts in_World hown hK hP 5 rfl rfl 5 (by decide) (hts _ k_67) (fun _ h9 => h9) rfl d_World_lay_93 ?_
      refine lv_aload_n hx hb d_World_lay_96 rfl (lv_at hl 1 rfl) ?_
      refine va_get (D := D) (ci := 6) (v := .ref fn) (C := "TaleMachine$World") (T := F_World) (N := 9) hx hb hts in_World hown hK hP 5 rfl rfl 3 (by decide) (hts _ k_65) (fun _ h9 => h9) rfl d_World_lay_97 ?_
      refine lv_iload_n hx hb d_World_lay_100 rfl (lv_at hl 0 rfl) ?_
      refine ia_ld hx hb hK hP 3 0 rfl rfl (k := a8) (by omega) (by first | decide | assumption) d_World_lay_101 ?_
      refine lv_topi (fun z8 hz8 => ?_)
      obtain rfl : z8 = (nI m9) := hz8.trans (hme)
      refine lv_iadd hx hb d_World_lay_102 ?_
      refine lv_topi (fun z9 hz9 => ?_)
      obtain rfl : z9 = nI (k1 + m9) := hz9.trans (nI_add k1 m9)
      refine va_put (D := D) (ci := 6) (v := .int (nI (k1 + m9))) (ty := .int) (C := "TaleMachine$World") (T := F_World) (N := 9) hx hb hts in_World t_World t_World_ok n_World hown hK hP hD hS 5 rfl rfl 5 (by decide) (hts _ k_67) (fun _ h9 => h9) rfl (by decide +kernel) rfl rfl (Nat.le_of_ble_eq_true rfl) d_World_lay_103 (fun H locs hP hD hS => ?_)
      have hP : va_P D cL [(st, .inr (3, [.ref kd, .ref it, .ref pa])), (pa, .inl (cI, 16, .inl fpa)), (fl, .inl (cI, 256, .inl ffl)), (fn, .inl (cI, 16, .inl ffn)), (li, .inl (cI, 32, .inl (va_cpy ffl g (a8 * 16) k1 m9))), (h, .inr (6, [.ref st, .int (nI fx), .ref fl, .ref fn, .ref li, .int (nI (k1 + m9)), .ref rc, .int (nI rn_), .int rb]))] H := hP
      have hD : va_D A [(st, .inr (3, [.ref kd, .ref it, .ref pa])), (pa, .inl (cI, 16, .inl fpa)), (fl, .inl (cI, 256, .inl ffl)), (fn, .inl (cI, 16, .inl ffn)), (li, .inl (cI, 32, .inl (va_cpy ffl g (a8 * 16) k1 m9))), (h, .inr (6, [.ref st, .int (nI fx), .ref fl, .ref fn, .ref li, .int (nI (k1 + m9)), .ref rc, .int (nI rn_), .int rb]))] := hD
      exact end_v hx hb hr hlocks hS (u := (k1 + m9, va_cpy ffl g (a8 * 16) k1 m9)) (at_end (hP.sub (ws' := [(h, .inr (6, [.ref st, .int (nI fx), .ref fl, .ref fn, .ref li, .int (nI (k1 + m9)), .ref rc, .int (nI rn_), .int rb])), (st, .inr (3, [.ref kd, .ref it, .ref pa])), (pa, .inl (cI, 16, .inl fpa)), (fl, .inl (cI, 256, .inl ffl)), (fn, .inl (cI, 16, .inl ffn)), (li, .inl (cI, 32, .inl (va_cpy ffl g (a8 * 16) k1 m9)))]) [5, 0, 1, 2, 3, 4] rfl) (hD.sub (ws' := [(h, .inr (6, [.ref st, .int (nI fx), .ref fl, .ref fn, .ref li, .int (nI (k1 + m9)), .ref rc, .int (nI rn_), .int rb])), (st, .inr (3, [.ref kd, .ref it, .ref pa])), (pa, .inl (cI, 16, .inl fpa)), (fl, .inl (cI, 256, .inl ffl)), (fn, .inl (cI, 16, .inl ffn)), (li, .inl (cI, 32, .inl (va_cpy ffl g (a8 * 16) k1 m9)))]) [5, 0, 1, 2, 3, 4] (by decide) rfl)) (⟨by omega, ROW.cpy hfl (by omega) hIk1.2, by show lst (va_cpy _ _ _ _ _) _ = _; rw [lst_cpy (by omega), hrow]; exact hl8⟩) (Nat.le_of_ble_eq_true rfl) (Nat.le_of_ble_eq_true rfl) d_World_lay_106
    · refine lv_aload_n hx hb d_World_lay_13 rfl (lv_at hl 1 rfl) ?_
      refine va_get (D := D) (ci := 6) (v := .int (nI k1)) (C := "TaleMachine$World") (T := F_World) (N := 9) hx hb hts in_World hown hK hP 0 rfl rfl 5 (by decide) (hts _ k_67) (fun _ h9 => h9) rfl d_World_lay_14 ?_
      refine lv_bipush (v := 16) hx hb d_World_lay_17 (by decide) ?_
      refine lv_icmp_ge hx hb d_World_lay_19 (tgt := 58) (by decide) (fun hc10 => ?_) (fun hc10 => ?_)
      · have hc10N : 16 ≤ k1 := (nI_leI (a := 16) (b := k1) (by omega) (by omega)).mp hc10
        exact absurd hc10N (by omega)
      · have hc10N : ¬ 16 ≤ k1 := fun z9 => hc10 ((nI_leI (a := 16) (b := k1) (by omega) (by omega)).mpr z9)
        have hIq := hIk1.1
        obtain ⟨a9, ea9, ha9, -⟩ := hIq
        subst ea9
        have h169 : 16 ≤ a9 := Nat.le_of_not_lt (fun z9 => hc3 (nI_lt (a := a9) (b := 16) z9 (by decide)))
        refine lv_aload_n hx hb d_World_lay_22 rfl (lv_at hl 1 rfl) ?_
        refine va_get (D := D) (ci := 6) (v := .ref li) (C := "TaleMachine$World") (T := F_World) (N := 9) hx hb hts in_World hown hK hP 0 rfl rfl 4 (by decide) (hts _ k_66) (fun _ h9 => h9) rfl d_World_lay_23 ?_
        refine lv_aload_n hx hb d_World_lay_26 rfl (lv_at hl 1 rfl) ?_
        refine va_get (D := D) (ci := 6) (v := .int (nI k1)) (C := "TaleMachine$World") (T := F_World) (N := 9) hx hb hts in_World hown hK hP 0 rfl rfl 5 (by decide) (hts _ k_67) (fun _ h9 => h9) rfl d_World_lay_27 ?_
        refine lv_iload_n hx hb d_World_lay_30 rfl (lv_at hl 0 rfl) ?_
        refine ia_st hx hb hK hP hD hS 5 0 rfl rfl (k := k1) (x := (nI a9)) (by omega) (by first | decide | assumption) d_World_lay_31 (fun H locs hP hD hS => ?_)
        have hP : va_P D cL [(h, .inr (6, [.ref st, .int (nI fx), .ref fl, .ref fn, .ref li, .int (nI k1), .ref rc, .int (nI rn_), .int rb])), (st, .inr (3, [.ref kd, .ref it, .ref pa])), (pa, .inl (cI, 16, .inl fpa)), (fl, .inl (cI, 256, .inl ffl)), (fn, .inl (cI, 16, .inl ffn)), (li, .inl (cI, 32, .inl (upd g k1 (nI a9))))] H := hP
        have hD : va_D A [(h, .inr (6, [.ref st, .int (nI fx), .ref fl, .ref fn, .ref li, .int (nI k1), .ref rc, .int (nI rn_), .int rb])), (st, .inr (3, [.ref kd, .ref it, .ref pa])), (pa, .inl (cI, 16, .inl fpa)), (fl, .inl (cI, 256, .inl ffl)), (fn, .inl (cI, 16, .inl ffn)), (li, .inl (cI, 32, .inl (upd g k1 (nI a9))))] := hD
        refine lv_aload_n hx hb d_World_lay_32 rfl (lv_at hl 1 rfl) ?_
        refine lv_dup hx hb d_World_lay_33 rfl ?_
        refine va_get (D := D) (ci := 6) (v := .int (nI k1)) (C := "TaleMachine$World") (T := F_World) (N := 9) hx hb hts in_World hown hK hP 0 rfl rfl 5 (by decide) (hts _ k_67) (fun _ h9 => h9) rfl d_World_lay_34 ?_
        refine lv_iconst (v := 1) hx hb d_World_lay_37 (by decide) ?_
        refine lv_iadd hx hb d_World_lay_38 ?_
        refine lv_topi (fun z11 hz11 => ?_)
        obtain rfl : z11 = nI (k1 + 1) := hz11.trans (nI_add k1 1)
        refine va_put (D := D) (ci := 6) (v := .int (nI (k1 + 1))) (ty := .int) (C := "TaleMachine$World") (T := F_World) (N := 9) hx hb hts in_World t_World t_World_ok n_World hown hK hP hD hS 0 rfl rfl 5 (by decide) (hts _ k_67) (fun _ h9 => h9) rfl (by decide +kernel) rfl rfl (Nat.le_of_ble_eq_true rfl) d_World_lay_39 (fun H locs hP hD hS => ?_)
        have hP : va_P D cL [(h, .inr (6, [.ref st, .int (nI fx), .ref fl, .ref fn, .ref li, .int (nI (k1 + 1)), .ref rc, .int (nI rn_), .int rb])), (st, .inr (3, [.ref kd, .ref it, .ref pa])), (pa, .inl (cI, 16, .inl fpa)), (fl, .inl (cI, 256, .inl ffl)), (fn, .inl (cI, 16, .inl ffn)), (li, .inl (cI, 32, .inl (upd g k1 (nI a9))))] H := hP
        have hD : va_D A [(h, .inr (6, [.ref st, .int (nI fx), .ref fl, .ref fn, .ref li, .int (nI (k1 + 1)), .ref rc, .int (nI rn_), .int rb])), (st, .inr (3, [.ref kd, .ref it, .ref pa])), (pa, .inl (cI, 16, .inl fpa)), (fl, .inl (cI, 256, .inl ffl)), (fn, .inl (cI, 16, .inl ffn)), (li, .inl (cI, 32, .inl (upd g k1 (nI a9))))] := hD
        refine lv_aload_n hx hb d_World_lay_42 rfl (lv_at hl 1 rfl) ?_
        refine va_get (D := D) (ci := 6) (v := .ref st) (C := "TaleMachine$World") (T := F_World) (N := 9) hx hb hts in_World hown hK hP 0 rfl rfl 0 (by decide) (hts _ k_60) (fun _ h9 => h9) rfl d_World_lay_43 ?_
        refine va_get (D := D) (ci := 3) (v := .ref pa) (C := "TaleMachine$State") (T := F_State) (N := 3) hx hb hts in_State hown hK hP 1 rfl rfl 2 (by decide) (hts _ k_56) (fun _ h9 => h9) rfl d_World_lay_46 ?_
        refine lv_iload_n hx hb d_World_lay_49 rfl (lv_at hl 0 rfl) ?_
        refine lv_bipush (v := 16) hx hb d_World_lay_50 (by decide) ?_
        refine lv_isub hx hb d_World_lay_52 ?_
        refine lv_topi (fun z12 hz12 => ?_)
        obtain rfl : z12 = nI (a9 - 16) := hz12.trans (pk_sub (a := a9) (b := 16) (by omega))
        refine ia_ld hx hb hK hP 2 0 rfl rfl (k := a9 - 16) (by omega) (by first | decide | assumption) d_World_lay_53 ?_
        refine lv_istore_n (lv' := [(2, .int (fpa (a9 - 16))), (0, .ref h), (1, .int (nI oo))]) hx hb d_World_lay_54 rfl hl (by decide) rfl (fun ls hl => ?_)
        refine lv_goto hx hb d_World_lay_55 (tgt := 7) (by decide) ?_
        exact ih2 hkk1 _ _ _ ⟨_, _, ⟨LAYP.step hc hIk1.1 h169 ha9, hIk1.2.up ha9⟩, hP, hD, hS, lv_sub hl [0, 1, 2] rfl⟩
  · have hkk1 : k1 = 16 := by omega
    refine lv_iload_n hx hb d_World_lay_7 rfl (lv_at hl 0 rfl) ?_
    refine lv_bipush (v := 16) hx hb d_World_lay_8 (by decide) ?_
    refine lv_icmp_lt hx hb d_World_lay_10 (tgt := 58) (by decide) (fun hc13 => ?_) (fun hc13 => ?_)
    · obtain ⟨a8, ea8, ha8, hl8⟩ := LAYP.low hc ho h1 hIk1.1 (Or.inr hc13)
      subst ea8
      obtain ⟨-, m9, hm9, hme, hrow⟩ := hc.2.2.1 a8 ha8
      refine lv_aload_n hx hb d_World_lay_58 rfl (lv_at hl 1 rfl) ?_
      refine lv_iload_n hx hb d_World_lay_59 rfl (lv_at hl 0 rfl) ?_
      refine mv_i (va_runV (C := "TaleMachine$World") (As := [.int (nI a8)]) (rest := []) ⟨hx, hb, hml, hown, hts⟩ (w_isFixed l D cI cZ cJ h st fl fn li rc 0 0 0 fx k1 rn_ rb (nI a8) _ (by first | assumption | omega | decide)) (cwV 1 hts (gInV k_235 k_236 k_237 k_3 k_238) rfl rfl rfl (by decide +kernel) ⟨Nat.le_of_ble_eq_true rfl, Nat.le_of_ble_eq_true rfl⟩) (pre_V (va_recv hK hP (q := ("TaleMachine$World", F_World, 9)) rfl (q0 := 0) rfl) (hP.sub [0] rfl) (hK.sub [0, 1, 2] rfl) (hD.sub [0] (by decide) rfl) hT) rfl rfl hl.1 rfl (lv_room (Nat.le_of_ble_eq_true rfl)) d_World_lay_60 ⟨Nat.le_of_ble_eq_true rfl, Nat.le_of_ble_eq_true rfl⟩) hP hD hS hA [0] [1, 2, 3, 4, 5] rfl rfl (by decide) (by decide) (wr := [(st, .inr (3, [.ref kd, .ref it, .ref pa])), (pa, .inl (cI, 16, .inl fpa)), (fl, .inl (cI, 256, .inl ffl)), (fn, .inl (cI, 16, .inl ffn)), (li, .inl (cI, 32, .inl g))]) (wn := fun _ => [(h, .inr (6, [.ref st, .int (nI fx), .ref fl, .ref fn, .ref li, .int (nI k1), .ref rc, .int (nI rn_), .int rb]))]) (fun _ _ h9 => h9) (fun r14 _ H locs hp15 hP hD hS => ?_)
      have hP : va_P D cL [(st, .inr (3, [.ref kd, .ref it, .ref pa])), (pa, .inl (cI, 16, .inl fpa)), (fl, .inl (cI, 256, .inl ffl)), (fn, .inl (cI, 16, .inl ffn)), (li, .inl (cI, 32, .inl g)), (h, .inr (6, [.ref st, .int (nI fx), .ref fl, .ref fn, .ref li, .int (nI k1), .ref rc, .int (nI rn_), .int rb]))] H := hP
      have hD : va_D A [(st, .inr (3, [.ref kd, .ref it, .ref pa])), (pa, .inl (cI, 16, .inl fpa)), (fl, .inl (cI, 256, .inl ffl)), (fn, .inl (cI, 16, .inl ffn)), (li, .inl (cI, 32, .inl g)), (h, .inr (6, [.ref st, .int (nI fx), .ref fl, .ref fn, .ref li, .int (nI k1), .ref rc, .int (nI rn_), .int rb]))] := hD
      refine lv_if_eq hx hb d_World_lay_63 (tgt := 106) (by decide) (fun hz => absurd hz (by rw [hp15.2.mpr ⟨a8, ha8, rfl⟩]; decide)) (fun _ => ?_)
      refine lv_aload_n hx hb d_World_lay_66 rfl (lv_at hl 1 rfl) ?_
      refine va_get (D := D) (ci := 6) (v := .ref fl) (C := "TaleMachine$World") (T := F_World) (N := 9) hx hb hts in_World hown hK hP 5 rfl rfl 2 (by decide) (hts _ k_64) (fun _ h9 => h9) rfl d_World_lay_67 ?_
      refine lv_iload_n hx hb d_World_lay_70 rfl (lv_at hl 0 rfl) ?_
      refine lv_bipush (v := 16) hx hb d_World_lay_71 (by decide) ?_
      refine lv_imul hx hb d_World_lay_73 ?_
      refine lv_topi (fun z16 hz16 => ?_)
      obtain rfl : z16 = nI (a8 * 16) := hz16.trans (pk_mul a8 16)
      refine lv_aload_n hx hb d_World_lay_74 rfl (lv_at hl 1 rfl) ?_
      refine va_get (D := D) (ci := 6) (v := .ref li) (C := "TaleMachine$World") (T := F_World) (N := 9) hx hb hts in_World hown hK hP 5 rfl rfl 4 (by decide) (hts _ k_66) (fun _ h9 => h9) rfl d_World_lay_75 ?_
      refine lv_aload_n hx hb d_World_lay_78 rfl (lv_at hl 1 rfl) ?_
      refine va_get (D := D) (ci := 6) (v := .int (nI k1)) (C := "TaleMachine$World") (T := F_World) (N := 9) hx hb hts in_World hown hK hP 5 rfl rfl 5 (by decide) (hts _ k_67) (fun _ h9 => h9) rfl d_World_lay_79 ?_
      refine lv_aload_n hx hb d_World_lay_82 rfl (lv_at hl 1 rfl) ?_
      refine va_get (D := D) (ci := 6) (v := .ref fn) (C := "TaleMachine$World") (T := F_World) (N := 9) hx hb hts in_World hown hK hP 5 rfl rfl 3 (by decide) (hts _ k_65) (fun _ h9 => h9) rfl d_World_lay_83 ?_
      refine lv_iload_n hx hb d_World_lay_86 rfl (lv_at hl 0 rfl) ?_
      refine ia_ld hx hb hK hP 3 0 rfl rfl (k := a8) (by omega) (by first | decide | assumption) d_World_lay_87 ?_
      refine lv_topi (fun z17 hz17 => ?_)
      obtain rfl : z17 = (nI m9) := hz17.trans (hme)
      refine ac_i (x := a8 * 16) (y := k1) (z := m9) hx hb (hml.trans hl.1.symm) hown (hts _ k_271) (hts _ k_273) (hts _ k_272) (hts _ k_17) hK hP hD hS 2 4 0 rfl rfl rfl (by omega) (by omega) (by decide) (by decide) (Nat.le_of_ble_eq_true rfl) (Nat.le_of_ble_eq_true rfl) d_World_lay_88 (fun H locs hP hD hS => ?_)
      have hP : va_P D cL [(st, .inr (3, [.ref kd, .ref it, .ref pa])), (pa, .inl (cI, 16, .inl fpa)), (fl, .inl (cI, 256, .inl ffl)), (fn, .inl (cI, 16, .inl ffn)), (li, .inl (cI, 32, .inl (va_cpy ffl g (a8 * 16) k1 m9))), (h, .inr (6, [.ref st, .int (nI fx), .ref fl, .ref fn, .ref li, .int (nI k1), .ref rc, .int (nI rn_), .int rb]))] H := hP
      have hD : va_D A [(st, .inr (3, [.ref kd, .ref it, .ref pa])), (pa, .inl (cI, 16, .inl fpa)), (fl, .inl (cI, 256, .inl ffl)), (fn, .inl (cI, 16, .inl ffn)), (li, .inl (cI, 32, .inl (va_cpy ffl g (a8 * 16) k1 m9))), (h, .inr (6, [.ref st, .int (nI fx), .ref fl, .ref fn, .ref li, .int (nI k1), .ref rc, .int (nI rn_), .int rb]))] := hD
      refine lv_aload_n hx hb d_World_lay_91 rfl (lv_at hl 1 rfl) ?_
      refine lv_dup hx hb d_World_lay_92 rfl ?_
      refine va_get (D := D) (ci := 6) (v := .int (nI k1)) (C := "TaleMachine$World") (T := F_World) (N := 9) hx hb hts in_World hown hK hP 5 rfl rfl 5 (by decide) (hts _ k_67) (fun _ h9 => h9) rfl d_World_lay_93 ?_
      refine lv_aload_n hx hb d_World_lay_96 rfl (lv_at hl 1 rfl) ?_
      refine va_get (D := D) (ci := 6) (v := .ref fn) (C := "TaleMachine$World") (T := F_World) (N := 9) hx hb hts in_World hown hK hP 5 rfl rfl 3 (by decide) (hts _ k_65) (fun _ h9 => h9) rfl d_World_lay_97 ?_
      refine lv_iload_n hx hb d_World_lay_100 rfl (lv_at hl 0 rfl) ?_
      refine ia_ld hx hb hK hP 3 0 rfl rfl (k := a8) (by omega) (by first | decide | assumption) d_World_lay_101 ?_
      refine lv_topi (fun z18 hz18 => ?_)
      obtain rfl : z18 = (nI m9) := hz18.trans (hme)
      refine lv_iadd hx hb d_World_lay_102 ?_
      refine lv_topi (fun z19 hz19 => ?_)
      obtain rfl : z19 = nI (k1 + m9) := hz19.trans (nI_add k1 m9)
      refine va_put (D := D) (ci := 6) (v := .int (nI (k1 + m9))) (ty := .int) (C := "TaleMachine$World") (T := F_World) (N := 9) hx hb hts in_World t_World t_World_ok n_World hown hK hP hD hS 5 rfl rfl 5 (by decide) (hts _ k_67) (fun _ h9 => h9) rfl (by decide +kernel) rfl rfl (Nat.le_of_ble_eq_true rfl) d_World_lay_103 (fun H locs hP hD hS => ?_)
      have hP : va_P D cL [(st, .inr (3, [.ref kd, .ref it, .ref pa])), (pa, .inl (cI, 16, .inl fpa)), (fl, .inl (cI, 256, .inl ffl)), (fn, .inl (cI, 16, .inl ffn)), (li, .inl (cI, 32, .inl (va_cpy ffl g (a8 * 16) k1 m9))), (h, .inr (6, [.ref st, .int (nI fx), .ref fl, .ref fn, .ref li, .int (nI (k1 + m9)), .ref rc, .int (nI rn_), .int rb]))] H := hP
      have hD : va_D A [(st, .inr (3, [.ref kd, .ref it, .ref pa])), (pa, .inl (cI, 16, .inl fpa)), (fl, .inl (cI, 256, .inl ffl)), (fn, .inl (cI, 16, .inl ffn)), (li, .inl (cI, 32, .inl (va_cpy ffl g (a8 * 16) k1 m9))), (h, .inr (6, [.ref st, .int (nI fx), .ref fl, .ref fn, .ref li, .int (nI (k1 + m9)), .ref rc, .int (nI rn_), .int rb]))] := hD
      exact end_v hx hb hr hlocks hS (u := (k1 + m9, va_cpy ffl g (a8 * 16) k1 m9)) (at_end (hP.sub (ws' := [(h, .inr (6, [.ref st, .int (nI fx), .ref fl, .ref fn, .ref li, .int (nI (k1 + m9)), .ref rc, .int (nI rn_), .int rb])), (st, .inr (3, [.ref kd, .ref it, .ref pa])), (pa, .inl (cI, 16, .inl fpa)), (fl, .inl (cI, 256, .inl ffl)), (fn, .inl (cI, 16, .inl ffn)), (li, .inl (cI, 32, .inl (va_cpy ffl g (a8 * 16) k1 m9)))]) [5, 0, 1, 2, 3, 4] rfl) (hD.sub (ws' := [(h, .inr (6, [.ref st, .int (nI fx), .ref fl, .ref fn, .ref li, .int (nI (k1 + m9)), .ref rc, .int (nI rn_), .int rb])), (st, .inr (3, [.ref kd, .ref it, .ref pa])), (pa, .inl (cI, 16, .inl fpa)), (fl, .inl (cI, 256, .inl ffl)), (fn, .inl (cI, 16, .inl ffn)), (li, .inl (cI, 32, .inl (va_cpy ffl g (a8 * 16) k1 m9)))]) [5, 0, 1, 2, 3, 4] (by decide) rfl)) (⟨by omega, ROW.cpy hfl (by omega) hIk1.2, by show lst (va_cpy _ _ _ _ _) _ = _; rw [lst_cpy (by omega), hrow]; exact hl8⟩) (Nat.le_of_ble_eq_true rfl) (Nat.le_of_ble_eq_true rfl) d_World_lay_106
    · refine lv_aload_n hx hb d_World_lay_13 rfl (lv_at hl 1 rfl) ?_
      refine va_get (D := D) (ci := 6) (v := .int (nI k1)) (C := "TaleMachine$World") (T := F_World) (N := 9) hx hb hts in_World hown hK hP 0 rfl rfl 5 (by decide) (hts _ k_67) (fun _ h9 => h9) rfl d_World_lay_14 ?_
      refine lv_bipush (v := 16) hx hb d_World_lay_17 (by decide) ?_
      refine lv_icmp_ge hx hb d_World_lay_19 (tgt := 58) (by decide) (fun hc20 => ?_) (fun hc20 => ?_)
      · have hc20N : 16 ≤ k1 := (nI_leI (a := 16) (b := k1) (by omega) (by omega)).mp hc20
        obtain ⟨a8, ea8, ha8, hl8⟩ := LAYP.low hc ho h1 hIk1.1 (Or.inl hkk1)
        subst ea8
        obtain ⟨-, m9, hm9, hme, hrow⟩ := hc.2.2.1 a8 ha8
        refine lv_aload_n hx hb d_World_lay_58 rfl (lv_at hl 1 rfl) ?_
        refine lv_iload_n hx hb d_World_lay_59 rfl (lv_at hl 0 rfl) ?_
        refine mv_i (va_runV (C := "TaleMachine$World") (As := [.int (nI a8)]) (rest := []) ⟨hx, hb, hml, hown, hts⟩ (w_isFixed l D cI cZ cJ h st fl fn li rc 0 0 0 fx k1 rn_ rb (nI a8) _ (by first | assumption | omega | decide)) (cwV 1 hts (gInV k_235 k_236 k_237 k_3 k_238) rfl rfl rfl (by decide +kernel) ⟨Nat.le_of_ble_eq_true rfl, Nat.le_of_ble_eq_true rfl⟩) (pre_V (va_recv hK hP (q := ("TaleMachine$World", F_World, 9)) rfl (q0 := 0) rfl) (hP.sub [0] rfl) (hK.sub [0, 1, 2] rfl) (hD.sub [0] (by decide) rfl) hT) rfl rfl hl.1 rfl (lv_room (Nat.le_of_ble_eq_true rfl)) d_World_lay_60 ⟨Nat.le_of_ble_eq_true rfl, Nat.le_of_ble_eq_true rfl⟩) hP hD hS hA [0] [1, 2, 3, 4, 5] rfl rfl (by decide) (by decide) (wr := [(st, .inr (3, [.ref kd, .ref it, .ref pa])), (pa, .inl (cI, 16, .inl fpa)), (fl, .inl (cI, 256, .inl ffl)), (fn, .inl (cI, 16, .inl ffn)), (li, .inl (cI, 32, .inl g))]) (wn := fun _ => [(h, .inr (6, [.ref st, .int (nI fx), .ref fl, .ref fn, .ref li, .int (nI k1), .ref rc, .int (nI rn_), .int rb]))]) (fun _ _ h9 => h9) (fun r21 _ H locs hp22 hP hD hS => ?_)
        have hP : va_P D cL [(st, .inr (3, [.ref kd, .ref it, .ref pa])), (pa, .inl (cI, 16, .inl fpa)), (fl, .inl (cI, 256, .inl ffl)), (fn, .inl (cI, 16, .inl ffn)), (li, .inl (cI, 32, .inl g)), (h, .inr (6, [.ref st, .int (nI fx), .ref fl, .ref fn, .ref li, .int (nI k1), .ref rc, .int (nI rn_), .int rb]))] H := hP
        have hD : va_D A [(st, .inr (3, [.ref kd, .ref it, .ref pa])), (pa, .inl (cI, 16, .inl fpa)), (fl, .inl (cI, 256, .inl ffl)), (fn, .inl (cI, 16, .inl ffn)), (li, .inl (cI, 32, .inl g)), (h, .inr (6, [.ref st, .int (nI fx), .ref fl, .ref fn, .ref li, .int (nI k1), .ref rc, .int (nI rn_), .int rb]))] := hD
        refine lv_if_eq hx hb d_World_lay_63 (tgt := 106) (by decide) (fun hz => absurd hz (by rw [hp22.2.mpr ⟨a8, ha8, rfl⟩]; decide)) (fun _ => ?_)
        refine lv_aload_n hx hb d_World_lay_66 rfl (lv_at hl 1 rfl) ?_
        refine va_get (D := D) (ci := 6) (v := .ref fl) (C := "TaleMachine$World") (T := F_World) (N := 9) hx hb hts in_World hown hK hP 5 rfl rfl 2 (by decide) (hts _ k_64) (fun _ h9 => h9) rfl d_World_lay_67 ?_
        refine lv_iload_n hx hb d_World_lay_70 rfl (lv_at hl 0 rfl) ?_
        refine lv_bipush (v := 16) hx hb d_World_lay_71 (by decide) ?_
        refine lv_imul hx hb d_World_lay_73 ?_
        refine lv_topi (fun z23 hz23 => ?_)
        obtain rfl : z23 = nI (a8 * 16) := hz23.trans (pk_mul a8 16)
        refine lv_aload_n hx hb d_World_lay_74 rfl (lv_at hl 1 rfl) ?_
        refine va_get (D := D) (ci := 6) (v := .ref li) (C := "TaleMachine$World") (T := F_World) (N := 9) hx hb hts in_World hown hK hP 5 rfl rfl 4 (by decide) (hts _ k_66) (fun _ h9 => h9) rfl d_World_lay_75 ?_
        refine lv_aload_n hx hb d_World_lay_78 rfl (lv_at hl 1 rfl) ?_
        refine va_get (D := D) (ci := 6) (v := .int (nI k1)) (C := "TaleMachine$World") (T := F_World) (N := 9) hx hb hts in_World hown hK hP 5 rfl rfl 5 (by decide) (hts _ k_67) (fun _ h9 => h9) rfl d_World_lay_79 ?_
        refine lv_aload_n hx hb d_World_lay_82 rfl (lv_at hl 1 rfl) ?_
        refine va_get (D := D) (ci := 6) (v := .ref fn) (C := "TaleMachine$World") (T := F_World) (N := 9) hx hb hts in_World hown hK hP 5 rfl rfl 3 (by decide) (hts _ k_65) (fun _ h9 => h9) rfl d_World_lay_83 ?_
        refine lv_iload_n hx hb d_World_lay_86 rfl (lv_at hl 0 rfl) ?_
        refine ia_ld hx hb hK hP 3 0 rfl rfl (k := a8) (by omega) (by first | decide | assumption) d_World_lay_87 ?_
        refine lv_topi (fun z24 hz24 => ?_)
        obtain rfl : z24 = (nI m9) := hz24.trans (hme)
        refine ac_i (x := a8 * 16) (y := k1) (z := m9) hx hb (hml.trans hl.1.symm) hown (hts _ k_271) (hts _ k_273) (hts _ k_272) (hts _ k_17) hK hP hD hS 2 4 0 rfl rfl rfl (by omega) (by omega) (by decide) (by decide) (Nat.le_of_ble_eq_true rfl) (Nat.le_of_ble_eq_true rfl) d_World_lay_88 (fun H locs hP hD hS => ?_)
        have hP : va_P D cL [(st, .inr (3, [.ref kd, .ref it, .ref pa])), (pa, .inl (cI, 16, .inl fpa)), (fl, .inl (cI, 256, .inl ffl)), (fn, .inl (cI, 16, .inl ffn)), (li, .inl (cI, 32, .inl (va_cpy ffl g (a8 * 16) k1 m9))), (h, .inr (6, [.ref st, .int (nI fx), .ref fl, .ref fn, .ref li, .int (nI k1), .ref rc, .int (nI rn_), .int rb]))] H := hP
        have hD : va_D A [(st, .inr (3, [.ref kd, .ref it, .ref pa])), (pa, .inl (cI, 16, .inl fpa)), (fl, .inl (cI, 256, .inl ffl)), (fn, .inl (cI, 16, .inl ffn)), (li, .inl (cI, 32, .inl (va_cpy ffl g (a8 * 16) k1 m9))), (h, .inr (6, [.ref st, .int (nI fx), .ref fl, .ref fn, .ref li, .int (nI k1), .ref rc, .int (nI rn_), .int rb]))] := hD
        refine lv_aload_n hx hb d_World_lay_91 rfl (lv_at hl 1 rfl) ?_
        refine lv_dup hx hb d_World_lay_92 rfl ?_
        refine va_get (D := D) (ci := 6) (v := .int (nI k1)) (C := "TaleMachine$World") (T := F_World) (N := 9) hx hb hts in_World hown hK hP 5 rfl rfl 5 (by decide) (hts _ k_67) (fun _ h9 => h9) rfl d_World_lay_93 ?_
        refine lv_aload_n hx hb d_World_lay_96 rfl (lv_at hl 1 rfl) ?_
        refine va_get (D := D) (ci := 6) (v := .ref fn) (C := "TaleMachine$World") (T := F_World) (N := 9) hx hb hts in_World hown hK hP 5 rfl rfl 3 (by decide) (hts _ k_65) (fun _ h9 => h9) rfl d_World_lay_97 ?_
        refine lv_iload_n hx hb d_World_lay_100 rfl (lv_at hl 0 rfl) ?_
        refine ia_ld hx hb hK hP 3 0 rfl rfl (k := a8) (by omega) (by first | decide | assumption) d_World_lay_101 ?_
        refine lv_topi (fun z25 hz25 => ?_)
        obtain rfl : z25 = (nI m9) := hz25.trans (hme)
        refine lv_iadd hx hb d_World_lay_102 ?_
        refine lv_topi (fun z26 hz26 => ?_)
        obtain rfl : z26 = nI (k1 + m9) := hz26.trans (nI_add k1 m9)
        refine va_put (D := D) (ci := 6) (v := .int (nI (k1 + m9))) (ty := .int) (C := "TaleMachine$World") (T := F_World) (N := 9) hx hb hts in_World t_World t_World_ok n_World hown hK hP hD hS 5 rfl rfl 5 (by decide) (hts _ k_67) (fun _ h9 => h9) rfl (by decide +kernel) rfl rfl (Nat.le_of_ble_eq_true rfl) d_World_lay_103 (fun H locs hP hD hS => ?_)
        have hP : va_P D cL [(st, .inr (3, [.ref kd, .ref it, .ref pa])), (pa, .inl (cI, 16, .inl fpa)), (fl, .inl (cI, 256, .inl ffl)), (fn, .inl (cI, 16, .inl ffn)), (li, .inl (cI, 32, .inl (va_cpy ffl g (a8 * 16) k1 m9))), (h, .inr (6, [.ref st, .int (nI fx), .ref fl, .ref fn, .ref li, .int (nI (k1 + m9)), .ref rc, .int (nI rn_), .int rb]))] H := hP
        have hD : va_D A [(st, .inr (3, [.ref kd, .ref it, .ref pa])), (pa, .inl (cI, 16, .inl fpa)), (fl, .inl (cI, 256, .inl ffl)), (fn, .inl (cI, 16, .inl ffn)), (li, .inl (cI, 32, .inl (va_cpy ffl g (a8 * 16) k1 m9))), (h, .inr (6, [.ref st, .int (nI fx), .ref fl, .ref fn, .ref li, .int (nI (k1 + m9)), .ref rc, .int (nI rn_), .int rb]))] := hD
        exact end_v hx hb hr hlocks hS (u := (k1 + m9, va_cpy ffl g (a8 * 16) k1 m9)) (at_end (hP.sub (ws' := [(h, .inr (6, [.ref st, .int (nI fx), .ref fl, .ref fn, .ref li, .int (nI (k1 + m9)), .ref rc, .int (nI rn_), .int rb])), (st, .inr (3, [.ref kd, .ref it, .ref pa])), (pa, .inl (cI, 16, .inl fpa)), (fl, .inl (cI, 256, .inl ffl)), (fn, .inl (cI, 16, .inl ffn)), (li, .inl (cI, 32, .inl (va_cpy ffl g (a8 * 16) k1 m9)))]) [5, 0, 1, 2, 3, 4] rfl) (hD.sub (ws' := [(h, .inr (6, [.ref st, .int (nI fx), .ref fl, .ref fn, .ref li, .int (nI (k1 + m9)), .ref rc, .int (nI rn_), .int rb])), (st, .inr (3, [.ref kd, .ref it, .ref pa])), (pa, .inl (cI, 16, .inl fpa)), (fl, .inl (cI, 256, .inl ffl)), (fn, .inl (cI, 16, .inl ffn)), (li, .inl (cI, 32, .inl (va_cpy ffl g (a8 * 16) k1 m9)))]) [5, 0, 1, 2, 3, 4] (by decide) rfl)) (⟨by omega, ROW.cpy hfl (by omega) hIk1.2, by show lst (va_cpy _ _ _ _ _) _ = _; rw [lst_cpy (by omega), hrow]; exact hl8⟩) (Nat.le_of_ble_eq_true rfl) (Nat.le_of_ble_eq_true rfl) d_World_lay_106
      · have hc20N : ¬ 16 ≤ k1 := fun z9 => hc20 ((nI_leI (a := 16) (b := k1) (by omega) (by omega)).mpr z9)
        exact absurd hc20N (by omega)

