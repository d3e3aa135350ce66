set_option maxHeartbeats 4000000 in
set_option maxRecDepth 100000 in
theorem y_gather (l : Launch) (D : va_G) (cI cZ cJ : ClassId) (h st fl fn li rc kd it pa : Nat) (fx le rn_ : Nat) (rb : Int32) (pp : Nat) (sn : Int32) (ffl ffn fli : Nat → Int32) (f_ : Nat → Int32) (acc : List Nat) (sz : Nat) (hfx : fx ≤ 16) (hp : pp < fx) (hX : FXI ffl ffn fx) (hrw : ∀ i, i < fx → f_ (29 * i) = 1 ∧ ∃ m, m ≤ i + 1 ∧ ffn i = nI m ∧ rowl ffl i m = (LNE f_ i).reverse) (hw : ∃ rk, WP f_ rk) (hG : GAX fli le sn fx acc) : Met l y_World_gather (.code y_World_gather prog_8_method_9_code 6 (some .int) :: AW) ({ frames := 0, cells := 0, slots := 0, locals := 0 }) (va_Pc [.ref h, .int (nI pp), .int sn] (pre_ D [(h, .inr (6, [.ref st, .int (nI fx), .ref fl, .ref fn, .ref li, .int (nI le), .ref rc, .int (nI rn_), .int rb])), (fl, .inl (cI, 256, .inl ffl)), (fn, .inl (cI, 16, .inl ffn)), (li, .inl (cI, 32, .inl fli))] [(cI, .int), (cZ, .boolean), (cJ, .long)] sz)) (va_Qi (fun (r : Int32) (u : Nat × (Nat → Int32)) => GAX u.2 u.1 r fx (EX acc (LNE f_ pp))) (fun u t => match u with | (le2, g) => post_ D (va_A [(h, .inr (6, [.ref st, .int (nI fx), .ref fl, .ref fn, .ref li, .int (nI le), .ref rc, .int (nI rn_), .int rb])), (fl, .inl (cI, 256, .inl ffl)), (fn, .inl (cI, 16, .inl ffn)), (li, .inl (cI, 32, .inl fli))] sz) [(h, .inr (6, [.ref st, .int (nI fx), .ref fl, .ref fn, .ref li, .int (nI le2), .ref rc, .int (nI rn_), .int rb])), (fl, .inl (cI, 256, .inl ffl)), (fn, .inl (cI, 16, .inl ffn)), (li, .inl (cI, 32, .inl g))] t) (va_A [(h, .inr (6, [.ref st, .int (nI fx), .ref fl, .ref fn, .ref li, .int (nI le), .ref rc, .int (nI rn_), .int rb])), (fl, .inl (cI, 256, .inl ffl)), (fn, .inl (cI, 16, .inl ffn)), (li, .inl (cI, 32, .inl fli))] sz)) 0 0 (va_A [(h, .inr (6, [.ref st, .int (nI fx), .ref fl, .ref fn, .ref li, .int (nI le), .ref rc, .int (nI rn_), .int rb])), (fl, .inl (cI, 256, .inl ffl)), (fn, .inl (cI, 16, .inl ffn)), (li, .inl (cI, 32, .inl fli))] sz) := by
  refine Met.ofW (cc := prog_8_method_9_code) (maxL := 6) (ret := (some .int)) (by decide) rfl ?_
  intro p e s m args below meth c s₁ B hml hv
  obtain ⟨rfl, rfl, hP, hK, hD0, hT⟩ := hv
  have hx := B.exec
  have hb := B.bytes
  have hr := B.returns
  have hts0 := atoms_spec (ws := .code y_World_gather prog_8_method_9_code 6 (some .int) :: AW) B.pre
  have hts : ∀ w ∈ AW, w.before [.ref h, .int (nI pp), .int sn].toArray s = true := fun w h => hts0 w (List.mem_cons_of_mem _ h)
  have hown : s.vm.findClass "TaleMachine$World" = some m.cls := findClass_of_methodNamed B.named
  have hlocks := B.notSynchronized
  have hD := hD0.self (sz := s.heap.size)
  generalize hAe : va_A [(h, .inr (6, [.ref st, .int (nI fx), .ref fl, .ref fn, .ref li, .int (nI le), .ref rc, .int (nI rn_), .int rb])), (fl, .inl (cI, 256, .inl ffl)), (fn, .inl (cI, 16, .inl ffn)), (li, .inl (cI, 32, .inl fli))] s.heap.size = A at hD ⊢
  have hA : ∀ q : Nat, s.heap.size ≤ q → A q := fun q h => by rw [← hAe]; exact Or.inr h
  have hS : va_S A s.heap s.heap [] := va_S.rf
  have hl := lv_entry ([.ref h, .int (nI pp), .int sn]) (n := 6) (Nat.le_of_ble_eq_true rfl)
  rw [lg_entry_eq]
  generalize (lg_sl ([.ref h, .int (nI pp), .int sn]) ++ List.replicate (6 - (lg_sl ([.ref h, .int (nI pp), .int sn])).length) Slot.unset).toArray = ls at hl ⊢
  have hl : lv_has ls 6 [(0, .ref h), (1, .int (nI pp)), (2, .int sn)] := hl
  obtain ⟨m0, hm0, hme, hml0⟩ := hX.2.2 pp hp
  obtain ⟨hpt, m1, hm1_, hme1, hrow⟩ := hrw pp hp
  obtain rfl : m0 = m1 := (nI_eq (by omega) (by omega)).mp (hme.symm.trans hme1)
  obtain ⟨rk9, hrk9⟩ := hw
  have hnd := LNE_nodup hrk9 (by omega) hpt
  have hml : ∀ k, k < m0 → ∃ q, q < fx ∧ ffl (pp * 16 + k) = nI q := fun k hk => by obtain ⟨q, h8, h9⟩ := hml0 k hk; exact ⟨q, by omega, h9⟩
  have hlen0 : m0 = (LNE f_ pp).length := by have z9 := congrArg List.length hrow; simpa [rowl] using z9
  refine lv_iload_n hx hb d_World_gather_0 rfl (lv_at hl 2 rfl) ?_
  refine lv_istore_n (lv' := [(3, .int sn), (0, .ref h), (1, .int (nI pp)), (2, .int sn)]) hx hb d_World_gather_1 rfl hl (by decide) rfl (fun ls hl => ?_)
  refine lv_aload_n hx hb d_World_gather_2 rfl (lv_at hl 1 rfl) ?_
  refine va_get (D := D) (ci := 6) (v := .ref fn) (C := "TaleMachine$World") (T := F_World) (N := 9) hx hb hts in_World hown hK hP 0 rfl rfl 3 (by decide) (hts _ k_65) (fun _ h9 => h9) rfl d_World_gather_3 ?_
  refine lv_iload_n hx hb d_World_gather_6 rfl (lv_at hl 2 rfl) ?_
  refine ia_ld hx hb hK hP 2 0 rfl rfl (k := pp) (by omega) (by first | decide | assumption) d_World_gather_7 ?_
  refine lv_topi (fun z1 hz1 => ?_)
  obtain rfl : z1 = (nI m0) := hz1.trans (hme)
  refine lv_iconst (v := 1) hx hb d_World_gather_8 (by decide) ?_
  refine lv_isub hx hb d_World_gather_9 ?_
  refine lv_istore (lv' := [(4, .int ((nI m0) - 1)), (3, .int sn), (0, .ref h), (1, .int (nI pp)), (2, .int sn)]) hx hb d_World_gather_10 hl (by decide) rfl (fun ls hl => ?_)
  refine lp_M (I := fun n2 H locs ls => ∃ x9 : Int32, ∃ m9 : Nat, ∃ le9 : Nat, ∃ sn9 : Int32, ∃ g9 : Nat → Int32, (DM x9 m9 ∧ m9 ≤ m0 ∧ GAX g9 le9 sn9 fx (EX acc ((LNE f_ pp).take (m0 - m9))) ∧ n2 = m9) ∧ va_P D cL [(h, .inr (6, [.ref st, .int (nI fx), .ref fl, .ref fn, .ref li, .int (nI le9), .ref rc, .int (nI rn_), .int rb])), (fl, .inl (cI, 256, .inl ffl)), (fn, .inl (cI, 16, .inl ffn)), (li, .inl (cI, 32, .inl g9))] H ∧ va_D A [(h, .inr (6, [.ref st, .int (nI fx), .ref fl, .ref fn, .ref li, .int (nI le9), .ref rc, .int (nI rn_), .int rb])), (fl, .inl (cI, 256, .inl ffl)), (fn, .inl (cI, 16, .inl ffn)), (li, .inl (cI, 32, .inl g9))] ∧ va_S A s.heap H locs ∧ lv_has ls 6 [(4, .int x9), (3, .int sn9), (0, .ref h), (1, .int (nI pp)), (2, .int sn)]) ?_ (m0) _ _ _ ⟨_, m0, le, sn, fli, ⟨rfl, Nat.le_refl _, by rw [Nat.sub_self, List.take_zero, EX_nil]; exact hG, rfl⟩, hP, hD, hS, lv_sub hl [0, 1, 2, 3, 4] rfl⟩
  intro n2 H locs ls hI ih3
  obtain ⟨x9, m9, le9, sn9, g9, hIn2, hP, hD, hS, hl⟩ := hI
  obtain ⟨hd1, hd1l, hg9, hd1n⟩ := hIn2
  refine lv_iload hx hb d_World_gather_12 (lv_at hl 0 rfl) ?_
  refine lv_if_lt hx hb d_World_gather_14 (tgt := 74) (by decide) (fun hc4 => ?_) (fun hc4 => ?_)
  · refine lv_iload_n hx hb d_World_gather_74 rfl (lv_at hl 1 rfl) ?_
    exact end_i hx hb hr hlocks hS (u := (le9, g9)) (r := sn9) (at_end (hP.sub (ws' := [(h, .inr (6, [.ref st, .int (nI fx), .ref fl, .ref fn, .ref li, .int (nI le9), .ref rc, .int (nI rn_), .int rb])), (fl, .inl (cI, 256, .inl ffl)), (fn, .inl (cI, 16, .inl ffn)), (li, .inl (cI, 32, .inl g9))]) [0, 1, 2, 3] rfl) (hD.sub (ws' := [(h, .inr (6, [.ref st, .int (nI fx), .ref fl, .ref fn, .ref li, .int (nI le9), .ref rc, .int (nI rn_), .int rb])), (fl, .inl (cI, 256, .inl ffl)), (fn, .inl (cI, 16, .inl ffn)), (li, .inl (cI, 32, .inl g9))]) [0, 1, 2, 3] (by decide) rfl)) (by have z9 := hg9; rw [hd1.neg (by omega) hc4, Nat.sub_zero, hlen0, List.take_length] at z9; exact z9) (Nat.le_of_ble_eq_true rfl) (Nat.le_of_ble_eq_true rfl) d_World_gather_75
  · obtain ⟨hm1, hxe⟩ := hd1.pos (by omega) hc4
    subst hxe
    obtain ⟨q9, hq9, hqe9⟩ := hml (m9 - 1) (by omega)
    obtain ⟨hl9, hqi9⟩ := row_at2 hrow hm1 hd1l hqe9 (by omega)
    have hbt9 := hg9.2.2 q9 (by omega)
    refine lv_aload_n hx hb d_World_gather_17 rfl (lv_at hl 2 rfl) ?_
    refine va_get (D := D) (ci := 6) (v := .ref fl) (C := "TaleMachine$World") (T := F_World) (N := 9) hx hb hts in_World hown hK hP 0 rfl rfl 2 (by decide) (hts _ k_64) (fun _ h9 => h9) rfl d_World_gather_18 ?_
    refine lv_iload_n hx hb d_World_gather_21 rfl (lv_at hl 3 rfl) ?_
    refine lv_bipush (v := 16) hx hb d_World_gather_22 (by decide) ?_
    refine lv_imul hx hb d_World_gather_24 ?_
    refine lv_topi (fun z5 hz5 => ?_)
    obtain rfl : z5 = nI (pp * 16) := hz5.trans (pk_mul pp 16)
    refine lv_iload hx hb d_World_gather_25 (lv_at hl 0 rfl) ?_
    refine lv_iadd hx hb d_World_gather_27 ?_
    refine lv_topi (fun z6 hz6 => ?_)
    obtain rfl : z6 = nI ((pp * 16) + (m9 - 1)) := hz6.trans (nI_add (pp * 16) (m9 - 1))
    refine ia_ld hx hb hK hP 1 0 rfl rfl (k := (pp * 16) + (m9 - 1)) (by omega) (by first | decide | assumption) d_World_gather_28 ?_
    refine lv_topi (fun z7 hz7 => ?_)
    obtain rfl : z7 = (nI q9) := hz7.trans (hqe9)
    refine lv_istore (lv' := [(5, .int (nI q9)), (4, .int (nI (m9 - 1))), (3, .int sn9), (0, .ref h), (1, .int (nI pp)), (2, .int sn)]) hx hb d_World_gather_29 hl (by decide) rfl (fun ls hl => ?_)
    refine lv_iload_n hx hb d_World_gather_31 rfl (lv_at hl 2 rfl) ?_
    refine lv_iload hx hb d_World_gather_32 (lv_at hl 0 rfl) ?_
    refine lv_iushr hx hb d_World_gather_34 rfl ?_
    refine lv_iconst (v := 1) hx hb d_World_gather_35 (by decide) ?_
    refine lv_iand hx hb d_World_gather_36 ?_
    refine lv_if_ne hx hb d_World_gather_37 (tgt := 68) (by decide) (fun hc8 => ?_) (fun hc8 => ?_)
    · refine lv_iinc (v := ((nI (m9 - 1)) + (-1))) (lv' := [(4, .int ((nI (m9 - 1)) + (-1))), (5, .int (nI q9)), (3, .int sn9), (0, .ref h), (1, .int (nI pp)), (2, .int sn)]) hx hb d_World_gather_68 hl (k := 1) rfl rfl (by decide) rfl (fun ls hl => ?_)
      refine lv_goto hx hb d_World_gather_71 (tgt := 12) (by decide) ?_
      exact ih3 (m9 - 1) (by omega) _ _ _ ⟨_, m9 - 1, le9, _, _, ⟨DM.dec hm1, by omega, by rw [show m0 - (m9 - 1) = m0 - m9 + 1 from by omega, EX_in1 hl9 hnd (by rw [hqi9]; exact hbt9.mp (by cases hz9 : bt sn9 q9; exact absurd ((b_utest (by omega)).mpr hz9) hc8; rfl))]; exact hg9, rfl⟩, hP, hD, hS, lv_sub hl [0, 2, 3, 4, 5] rfl⟩
    · have hbf9 : bt sn9 q9 = false := (b_utest (by omega)).mp hc8
      have hadd := hg9.add hfx (by omega) hbf9
      have hl32 := hadd.1
      refine lv_iload_n hx hb d_World_gather_40 rfl (lv_at hl 2 rfl) ?_
      refine lv_iconst (v := 1) hx hb d_World_gather_41 (by decide) ?_
      refine lv_iload hx hb d_World_gather_42 (lv_at hl 0 rfl) ?_
      refine lv_ishl hx hb d_World_gather_44 ?_
      refine lv_ior hx hb d_World_gather_45 ?_
      refine lv_istore_n (lv' := [(3, .int (sn9 ||| (1 <<< ((nI q9) &&& 31)))), (5, .int (nI q9)), (4, .int (nI (m9 - 1))), (0, .ref h), (1, .int (nI pp)), (2, .int sn)]) hx hb d_World_gather_46 rfl hl (by decide) rfl (fun ls hl => ?_)
      refine lv_aload_n hx hb d_World_gather_47 rfl (lv_at hl 3 rfl) ?_
      refine va_get (D := D) (ci := 6) (v := .ref li) (C := "TaleMachine$World") (T := F_World) (N := 9) hx hb hts in_World hown hK hP 0 rfl rfl 4 (by decide) (hts _ k_66) (fun _ h9 => h9) rfl d_World_gather_48 ?_
      refine lv_aload_n hx hb d_World_gather_51 rfl (lv_at hl 3 rfl) ?_
      refine va_get (D := D) (ci := 6) (v := .int (nI le9)) (C := "TaleMachine$World") (T := F_World) (N := 9) hx hb hts in_World hown hK hP 0 rfl rfl 5 (by decide) (hts _ k_67) (fun _ h9 => h9) rfl d_World_gather_52 ?_
      refine lv_iload hx hb d_World_gather_55 (lv_at hl 1 rfl) ?_
      refine ia_st hx hb hK hP hD hS 3 0 rfl rfl (k := le9) (x := (nI q9)) (by omega) (by first | decide | assumption) d_World_gather_57 (fun H locs hP hD hS => ?_)
      have hP : va_P D cL [(h, .inr (6, [.ref st, .int (nI fx), .ref fl, .ref fn, .ref li, .int (nI le9), .ref rc, .int (nI rn_), .int rb])), (fl, .inl (cI, 256, .inl ffl)), (fn, .inl (cI, 16, .inl ffn)), (li, .inl (cI, 32, .inl (upd g9 le9 (nI q9))))] H := hP
      have hD : va_D A [(h, .inr (6, [.ref st, .int (nI fx), .ref fl, .ref fn, .ref li, .int (nI le9), .ref rc, .int (nI rn_), .int rb])), (fl, .inl (cI, 256, .inl ffl)), (fn, .inl (cI, 16, .inl ffn)), (li, .inl (cI, 32, .inl (upd g9 le9 (nI q9))))] := hD
      refine lv_aload_n hx hb d_World_gather_58 rfl (lv_at hl 3 rfl) ?_
      refine lv_dup hx hb d_World_gather_59 rfl ?_
      refine va_get (D := D) (ci := 6) (v := .int (nI le9)) (C := "TaleMachine$World") (T := F_World) (N := 9) hx hb hts in_World hown hK hP 0 rfl rfl 5 (by decide) (hts _ k_67) (fun _ h9 => h9) rfl d_World_gather_60 ?_
      refine lv_iconst (v := 1) hx hb d_World_gather_63 (by decide) ?_
      refine lv_iadd hx hb d_World_gather_64 ?_
      refine lv_topi (fun z9 hz9 => ?_)
      obtain rfl : z9 = nI (le9 + 1) := hz9.trans (nI_add le9 1)
      refine va_put (D := D) (ci := 6) (v := .int (nI (le9 + 1))) (ty := .int) (C := "TaleMachine$World") (T := F_World) (N := 9) hx hb hts in_World t_World t_World_ok n_World hown hK hP hD hS 0 rfl rfl 5 (by decide) (hts _ k_67) (fun _ h9 => h9) rfl (by decide +kernel) rfl rfl (Nat.le_of_ble_eq_true rfl) d_World_gather_65 (fun H locs hP hD hS => ?_)
      have hP : va_P D cL [(h, .inr (6, [.ref st, .int (nI fx), .ref fl, .ref fn, .ref li, .int (nI (le9 + 1)), .ref rc, .int (nI rn_), .int rb])), (fl, .inl (cI, 256, .inl ffl)), (fn, .inl (cI, 16, .inl ffn)), (li, .inl (cI, 32, .inl (upd g9 le9 (nI q9))))] H := hP
      have hD : va_D A [(h, .inr (6, [.ref st, .int (nI fx), .ref fl, .ref fn, .ref li, .int (nI (le9 + 1)), .ref rc, .int (nI rn_), .int rb])), (fl, .inl (cI, 256, .inl ffl)), (fn, .inl (cI, 16, .inl ffn)), (li, .inl (cI, 32, .inl (upd g9 le9 (nI q9))))] := hD
      refine lv_iinc (v := ((nI (m9 - 1)) + (-1))) (lv' := [(4, .int ((nI (m9 - 1)) + (-1))), (3, .int (sn9 ||| (1 <<< ((nI q9) &&& 31)))), (5, .int (nI q9)), (0, .ref h), (1, .int (nI pp)), (2, .int sn)]) hx hb d_World_gather_68 hl (k := 2) rfl rfl (by decide) rfl (fun ls hl => ?_)
      refine lv_goto hx hb d_World_gather_71 (tgt := 12) (by decide) ?_
      exact ih3 (m9 - 1) (by omega) _ _ _ ⟨_, m9 - 1, le9 + 1, _, _, ⟨DM.dec hm1, by omega, by rw [show m0 - (m9 - 1) = m0 - m9 + 1 from by omega, EX_out1 hl9 (by rw [hqi9]; exact fun z9 => absurd (hbt9.mpr z9) (by rw [hbf9]; decide)), hqi9]; exact hadd.2, rfl⟩, hP, hD, hS, lv_sub hl [0, 1, 3, 4, 5] rfl⟩

set_option maxHeartbeats 4000000 in
set_option maxRecDepth 100000 in
theorem y_fix_0 (l : Launch) (D : va_G) (cI cZ cJ : ClassId) (h st fl fn li rc kd it pa : Nat) (fx le rn_ : Nat) (rb : Int32) (aa ba ca : Int32) (pa1 pa2 pa3 : Nat) (ffl ffn fli : Nat → Int32) (f_ : Nat → Int32) (sz : Nat) (hfx : fx < 16) (hX : FXI ffl ffn fx) (hrw : ∀ i, i < fx → f_ (29 * i) = 1 ∧ ∃ m, m ≤ i + 1 ∧ ffn i = nI m ∧ rowl ffl i m = (LNE f_ i).reverse) (hw : ∃ rk, WP f_ rk) : Met l y_World_fix (.code y_World_fix prog_8_method_8_code 8 (some .int) :: AW) ({ frames := 0, cells := 0, slots := 0, locals := 0 }) (va_Pc [.ref h, .int 0, .int aa, .int ba, .int ca] (pre_ D [(h, .inr (6, [.ref st, .int (nI fx), .ref fl, .ref fn, .ref li, .int (nI le), .ref rc, .int (nI rn_), .int rb])), (fl, .inl (cI, 256, .inl ffl)), (fn, .inl (cI, 16, .inl ffn)), (li, .inl (cI, 32, .inl fli))] [(cI, .int), (cZ, .boolean), (cJ, .long)] sz)) (va_Qi (fun (r : Int32) (u : Nat × (Nat → Int32) × (Nat → Int32) × (Nat → Int32)) => r = nI fx ∧ (match u with | (le2, g, gl, gn) => FXI gl gn (fx + 1) ∧ le2 ≤ fx ∧ rowl gl fx (le2 + 1) = (([] : List Nat) ++ [fx]).reverse ∧ gn fx = nI (le2 + 1) ∧ (∀ j, j < fx * 16 → gl j = ffl j) ∧ ∀ i, i < fx → gn i = ffn i)) (fun u t => match u with | (le2, g, gl, gn) => post_ D (va_A [(h, .inr (6, [.ref st, .int (nI fx), .ref fl, .ref fn, .ref li, .int (nI le), .ref rc, .int (nI rn_), .int rb])), (fl, .inl (cI, 256, .inl ffl)), (fn, .inl (cI, 16, .inl ffn)), (li, .inl (cI, 32, .inl fli))] sz) [(h, .inr (6, [.ref st, .int (nI (fx + 1)), .ref fl, .ref fn, .ref li, .int (nI le2), .ref rc, .int (nI rn_), .int rb])), (fl, .inl (cI, 256, .inl gl)), (fn, .inl (cI, 16, .inl gn)), (li, .inl (cI, 32, .inl g))] t) (va_A [(h, .inr (6, [.ref st, .int (nI fx), .ref fl, .ref fn, .ref li, .int (nI le), .ref rc, .int (nI rn_), .int rb])), (fl, .inl (cI, 256, .inl ffl)), (fn, .inl (cI, 16, .inl ffn)), (li, .inl (cI, 32, .inl fli))] sz)) 0 0 (va_A [(h, .inr (6, [.ref st, .int (nI fx), .ref fl, .ref fn, .ref li, .int (nI le), .ref rc, .int (nI rn_), .int rb])), (fl, .inl (cI, 256, .inl ffl)), (fn, .inl (cI, 16, .inl ffn)), (li, .inl (cI, 32, .inl fli))] sz) := by
  refine Met.ofW (cc := prog_8_method_8_code) (maxL := 8) (ret := (some .int)) (by decide) rfl ?_
  intro p e s m args below meth c s₁ B hml hv
  obtain ⟨rfl, rfl, hP, hK, hD0, hT⟩ := hv
  have hx := B.exec
  have hb := B.bytes
  have hr := B.returns
  have hts0 := atoms_spec (ws := .code y_World_fix prog_8_method_8_code 8 (some .int) :: AW) B.pre
  have hts : ∀ w ∈ AW, w.before [.ref h, .int 0, .int aa, .int ba, .int ca].toArray s = true := fun w h => hts0 w (List.mem_cons_of_mem _ h)
  have hown : s.vm.findClass "TaleMachine$World" = some m.cls := findClass_of_methodNamed B.named
  have hlocks := B.notSynchronized
  have hD := hD0.self (sz := s.heap.size)
  generalize hAe : va_A [(h, .inr (6, [.ref st, .int (nI fx), .ref fl, .ref fn, .ref li, .int (nI le), .ref rc, .int (nI rn_), .int rb])), (fl, .inl (cI, 256, .inl ffl)), (fn, .inl (cI, 16, .inl ffn)), (li, .inl (cI, 32, .inl fli))] s.heap.size = A at hD ⊢
  have hA : ∀ q : Nat, s.heap.size ≤ q → A q := fun q h => by rw [← hAe]; exact Or.inr h
  have hS : va_S A s.heap s.heap [] := va_S.rf
  have hl := lv_entry ([.ref h, .int 0, .int aa, .int ba, .int ca]) (n := 8) (Nat.le_of_ble_eq_true rfl)
  rw [lg_entry_eq]
  generalize (lg_sl ([.ref h, .int 0, .int aa, .int ba, .int ca]) ++ List.replicate (8 - (lg_sl ([.ref h, .int 0, .int aa, .int ba, .int ca])).length) Slot.unset).toArray = ls at hl ⊢
  have hl : lv_has ls 8 [(0, .ref h), (1, .int 0), (2, .int aa), (3, .int ba), (4, .int ca)] := hl
  refine lv_aload_n hx hb d_World_fix_0 rfl (lv_at hl 0 rfl) ?_
  refine lv_iconst (v := 0) hx hb d_World_fix_1 (by decide) ?_
  refine va_put (D := D) (ci := 6) (v := .int 0) (ty := .int) (C := "TaleMachine$World") (T := F_World) (N := 9) hx hb hts in_World t_World t_World_ok n_World hown hK hP hD hS 0 rfl rfl 5 (by decide) (hts _ k_67) (fun _ h9 => h9) rfl (by decide +kernel) rfl rfl (Nat.le_of_ble_eq_true rfl) d_World_fix_2 (fun H locs hP hD hS => ?_)
  have hP : va_P D cL [(h, .inr (6, [.ref st, .int (nI fx), .ref fl, .ref fn, .ref li, .int 0, .ref rc, .int (nI rn_), .int rb])), (fl, .inl (cI, 256, .inl ffl)), (fn, .inl (cI, 16, .inl ffn)), (li, .inl (cI, 32, .inl fli))] H := hP
  have hD : va_D A [(h, .inr (6, [.ref st, .int (nI fx), .ref fl, .ref fn, .ref li, .int 0, .ref rc, .int (nI rn_), .int rb])), (fl, .inl (cI, 256, .inl ffl)), (fn, .inl (cI, 16, .inl ffn)), (li, .inl (cI, 32, .inl fli))] := hD
  refine lv_iconst (v := 0) hx hb d_World_fix_5 (by decide) ?_
  refine lv_istore (lv' := [(5, .int 0), (0, .ref h), (1, .int 0), (2, .int aa), (3, .int ba), (4, .int ca)]) hx hb d_World_fix_6 hl (by decide) rfl (fun ls hl => ?_)
  refine lv_iload_n hx hb d_World_fix_8 rfl (lv_at hl 2 rfl) ?_
  refine lv_iconst (v := 1) hx hb d_World_fix_9 (by decide) ?_
  refine lv_isub hx hb d_World_fix_10 ?_
  refine lv_topi (fun z1 hz1 => ?_)
  obtain rfl : z1 = (-1) := hz1.trans (by decide)
  refine lv_istore (lv' := [(6, .int (-1)), (5, .int 0), (0, .ref h), (1, .int 0), (2, .int aa), (3, .int ba), (4, .int ca)]) hx hb d_World_fix_11 hl (by decide) rfl (fun ls hl => ?_)
  refine lv_iload hx hb d_World_fix_13 (lv_at hl 0 rfl) ?_
  refine lv_if_lt hx hb d_World_fix_15 (tgt := 53) (by decide) (fun _ => ?_) (fun hz => absurd (by decide) hz)
  have hGA := (GAX.zero : GAX fli 0 0 fx [])
  have hGl := hGA.1.le
  have hGn := hGA.len
  refine lv_aload_n hx hb d_World_fix_53 rfl (lv_at hl 2 rfl) ?_
  refine va_get (D := D) (ci := 6) (v := .int (nI fx)) (C := "TaleMachine$World") (T := F_World) (N := 9) hx hb hts in_World hown hK hP 0 rfl rfl 1 (by decide) (hts _ k_62) (fun _ h9 => h9) rfl d_World_fix_54 ?_
  refine lv_bipush (v := 16) hx hb d_World_fix_57 (by decide) ?_
  refine lv_imul hx hb d_World_fix_59 ?_
  refine lv_topi (fun z2 hz2 => ?_)
  obtain rfl : z2 = nI (fx * 16) := hz2.trans (pk_mul fx 16)
  refine lv_istore (lv' := [(6, .int (nI (fx * 16))), (5, .int 0), (0, .ref h), (1, .int 0), (2, .int aa), (3, .int ba), (4, .int ca)]) hx hb d_World_fix_60 hl (by decide) rfl (fun ls hl => ?_)
  refine lv_aload_n hx hb d_World_fix_62 rfl (lv_at hl 2 rfl) ?_
  refine va_get (D := D) (ci := 6) (v := .ref fl) (C := "TaleMachine$World") (T := F_World) (N := 9) hx hb hts in_World hown hK hP 0 rfl rfl 2 (by decide) (hts _ k_64) (fun _ h9 => h9) rfl d_World_fix_63 ?_
  refine lv_iload hx hb d_World_fix_66 (lv_at hl 0 rfl) ?_
  refine lv_aload_n hx hb d_World_fix_68 rfl (lv_at hl 2 rfl) ?_
  refine va_get (D := D) (ci := 6) (v := .int (nI fx)) (C := "TaleMachine$World") (T := F_World) (N := 9) hx hb hts in_World hown hK hP 0 rfl rfl 1 (by decide) (hts _ k_62) (fun _ h9 => h9) rfl d_World_fix_69 ?_
  refine ia_st hx hb hK hP hD hS 1 0 rfl rfl (k := fx * 16) (x := (nI fx)) (by omega) (by first | decide | assumption) d_World_fix_72 (fun H locs hP hD hS => ?_)
  have hP : va_P D cL [(h, .inr (6, [.ref st, .int (nI fx), .ref fl, .ref fn, .ref li, .int 0, .ref rc, .int (nI rn_), .int rb])), (fl, .inl (cI, 256, .inl (upd ffl (fx * 16) (nI fx)))), (fn, .inl (cI, 16, .inl ffn)), (li, .inl (cI, 32, .inl fli))] H := hP
  have hD : va_D A [(h, .inr (6, [.ref st, .int (nI fx), .ref fl, .ref fn, .ref li, .int 0, .ref rc, .int (nI rn_), .int rb])), (fl, .inl (cI, 256, .inl (upd ffl (fx * 16) (nI fx)))), (fn, .inl (cI, 16, .inl ffn)), (li, .inl (cI, 32, .inl fli))] := hD
  refine lv_iconst (v := 0) hx hb d_World_fix_73 (by decide) ?_
  refine lv_istore (lv' := [(7, .int 0), (6, .int (nI (fx * 16))), (5, .int 0), (0, .ref h), (1, .int 0), (2, .int aa), (3, .int ba), (4, .int ca)]) hx hb d_World_fix_74 hl (by decide) rfl (fun ls hl => ?_)
  refine lv_iload hx hb d_World_fix_76 (lv_at hl 0 rfl) ?_
  refine lv_aload_n hx hb d_World_fix_78 rfl (lv_at hl 3 rfl) ?_
  refine va_get (D := D) (ci := 6) (v := .int 0) (C := "TaleMachine$World") (T := F_World) (N := 9) hx hb hts in_World hown hK hP 0 rfl rfl 5 (by decide) (hts _ k_67) (fun _ h9 => h9) rfl d_World_fix_79 ?_
  refine lv_icmp_ge hx hb d_World_fix_82 (tgt := 117) (by decide) (fun _ => ?_) (fun hz => absurd (by decide) hz)
  refine lv_aload_n hx hb d_World_fix_117 rfl (lv_at hl 3 rfl) ?_
  refine va_get (D := D) (ci := 6) (v := .ref fn) (C := "TaleMachine$World") (T := F_World) (N := 9) hx hb hts in_World hown hK hP 0 rfl rfl 3 (by decide) (hts _ k_65) (fun _ h9 => h9) rfl d_World_fix_118 ?_
  refine lv_aload_n hx hb d_World_fix_121 rfl (lv_at hl 3 rfl) ?_
  refine va_get (D := D) (ci := 6) (v := .int (nI fx)) (C := "TaleMachine$World") (T := F_World) (N := 9) hx hb hts in_World hown hK hP 0 rfl rfl 1 (by decide) (hts _ k_62) (fun _ h9 => h9) rfl d_World_fix_122 ?_
  refine lv_aload_n hx hb d_World_fix_125 rfl (lv_at hl 3 rfl) ?_
  refine va_get (D := D) (ci := 6) (v := .int 0) (C := "TaleMachine$World") (T := F_World) (N := 9) hx hb hts in_World hown hK hP 0 rfl rfl 5 (by decide) (hts _ k_67) (fun _ h9 => h9) rfl d_World_fix_126 ?_
  refine lv_iconst (v := 1) hx hb d_World_fix_129 (by decide) ?_
  refine lv_iadd hx hb d_World_fix_130 ?_
  refine lv_topi (fun z3 hz3 => ?_)
  obtain rfl : z3 = 1 := hz3.trans (by decide)
  refine ia_st hx hb hK hP hD hS 2 0 rfl rfl (k := fx) (x := 1) (by omega) (by first | decide | assumption) d_World_fix_131 (fun H locs hP hD hS => ?_)
  have hP : va_P D cL [(h, .inr (6, [.ref st, .int (nI fx), .ref fl, .ref fn, .ref li, .int 0, .ref rc, .int (nI rn_), .int rb])), (fl, .inl (cI, 256, .inl (upd ffl (fx * 16) (nI fx)))), (fn, .inl (cI, 16, .inl (upd ffn fx 1))), (li, .inl (cI, 32, .inl fli))] H := hP
  have hD : va_D A [(h, .inr (6, [.ref st, .int (nI fx), .ref fl, .ref fn, .ref li, .int 0, .ref rc, .int (nI rn_), .int rb])), (fl, .inl (cI, 256, .inl (upd ffl (fx * 16) (nI fx)))), (fn, .inl (cI, 16, .inl (upd ffn fx 1))), (li, .inl (cI, 32, .inl fli))] := hD
  refine lv_aload_n hx hb d_World_fix_132 rfl (lv_at hl 3 rfl) ?_
  refine lv_dup hx hb d_World_fix_133 rfl ?_
  refine va_get (D := D) (ci := 6) (v := .int (nI fx)) (C := "TaleMachine$World") (T := F_World) (N := 9) hx hb hts in_World hown hK hP 0 rfl rfl 1 (by decide) (hts _ k_62) (fun _ h9 => h9) rfl d_World_fix_134 ?_
  refine lv_iconst (v := 1) hx hb d_World_fix_137 (by decide) ?_
  refine lv_iadd hx hb d_World_fix_138 ?_
  refine lv_topi (fun z4 hz4 => ?_)
  obtain rfl : z4 = nI (fx + 1) := hz4.trans (nI_add fx 1)
  refine va_put (D := D) (ci := 6) (v := .int (nI (fx + 1))) (ty := .int) (C := "TaleMachine$World") (T := F_World) (N := 9) hx hb hts in_World t_World t_World_ok n_World hown hK hP hD hS 0 rfl rfl 1 (by decide) (hts _ k_62) (fun _ h9 => h9) rfl (by decide +kernel) rfl rfl (Nat.le_of_ble_eq_true rfl) d_World_fix_139 (fun H locs hP hD hS => ?_)
  have hP : va_P D cL [(h, .inr (6, [.ref st, .int (nI (fx + 1)), .ref fl, .ref fn, .ref li, .int 0, .ref rc, .int (nI rn_), .int rb])), (fl, .inl (cI, 256, .inl (upd ffl (fx * 16) (nI fx)))), (fn, .inl (cI, 16, .inl (upd ffn fx 1))), (li, .inl (cI, 32, .inl fli))] H := hP
  have hD : va_D A [(h, .inr (6, [.ref st, .int (nI (fx + 1)), .ref fl, .ref fn, .ref li, .int 0, .ref rc, .int (nI rn_), .int rb])), (fl, .inl (cI, 256, .inl (upd ffl (fx * 16) (nI fx)))), (fn, .inl (cI, 16, .inl (upd ffn fx 1))), (li, .inl (cI, 32, .inl fli))] := hD
  refine lv_aload_n hx hb d_World_fix_142 rfl (lv_at hl 3 rfl) ?_
  refine va_get (D := D) (ci := 6) (v := .int (nI (fx + 1))) (C := "TaleMachine$World") (T := F_World) (N := 9) hx hb hts in_World hown hK hP 0 rfl rfl 1 (by decide) (hts _ k_62) (fun _ h9 => h9) rfl d_World_fix_143 ?_
  refine lv_iconst (v := 1) hx hb d_World_fix_146 (by decide) ?_
  refine lv_isub hx hb d_World_fix_147 ?_
  refine lv_topi (fun z5 hz5 => ?_)
  obtain rfl : z5 = nI ((fx + 1) - 1) := hz5.trans (pk_sub (a := fx + 1) (b := 1) (by omega))
  exact end_i hx hb hr hlocks hS (u := (0, fli, upd ffl (fx * 16) (nI fx), upd ffn fx 1)) (r := (nI ((fx + 1) - 1))) (at_end (hP.sub (ws' := [(h, .inr (6, [.ref st, .int (nI (fx + 1)), .ref fl, .ref fn, .ref li, .int 0, .ref rc, .int (nI rn_), .int rb])), (fl, .inl (cI, 256, .inl (upd ffl (fx * 16) (nI fx)))), (fn, .inl (cI, 16, .inl (upd ffn fx 1))), (li, .inl (cI, 32, .inl fli))]) [0, 1, 2, 3] rfl) (hD.sub (ws' := [(h, .inr (6, [.ref st, .int (nI (fx + 1)), .ref fl, .ref fn, .ref li, .int 0, .ref rc, .int (nI rn_), .int rb])), (fl, .inl (cI, 256, .inl (upd ffl (fx * 16) (nI fx)))), (fn, .inl (cI, 16, .inl (upd ffn fx 1))), (li, .inl (cI, 32, .inl fli))]) [0, 1, 2, 3] (by decide) rfl)) (⟨by first | rfl | exact (congrArg nI (by omega)), hX.new hfx (Nat.zero_le _) FXP.init, Nat.zero_le _, (FXR.init (acc := [])).row (by omega) (fun x hx => absurd hx List.not_mem_nil), pk_us, fun j hj => pk_un (by omega), fun i hi => pk_un (by omega)⟩) (Nat.le_of_ble_eq_true rfl) (Nat.le_of_ble_eq_true rfl) d_World_fix_148

set_option maxHeartbeats 4000000 in
set_option maxRecDepth 100000 in
theorem y_fix_1 (l : Launch) (D : va_G) (cI cZ cJ : ClassId) (h st fl fn li rc kd it pa : Nat) (fx le rn_ : Nat) (rb : Int32) (aa ba ca : Int32) (pa1 pa2 pa3 : Nat) (ffl ffn fli : Nat → Int32) (f_ : Nat → Int32) (sz : Nat) (hfx : fx < 16) (hp1 : pa1 < fx) (hX : FXI ffl ffn fx) (hrw : ∀ i, i < fx → f_ (29 * i) = 1 ∧ ∃ m, m ≤ i + 1 ∧ ffn i = nI m ∧ rowl ffl i m = (LNE f_ i).reverse) (hw : ∃ rk, WP f_ rk) : Met l y_World_fix (.code y_World_fix prog_8_method_8_code 8 (some .int) :: AW) ({ frames := 1, cells := 0, slots := 0, locals := 25 }) (va_Pc [.ref h, .int 1, .int (nI pa1), .int ba, .int ca] (pre_ D [(h, .inr (6, [.ref st, .int (nI fx), .ref fl, .ref fn, .ref li, .int (nI le), .ref rc, .int (nI rn_), .int rb])), (fl, .inl (cI, 256, .inl ffl)), (fn, .inl (cI, 16, .inl ffn)), (li, .inl (cI, 32, .inl fli))] [(cI, .int), (cZ, .boolean), (cJ, .long)] sz)) (va_Qi (fun (r : Int32) (u : Nat × (Nat → Int32) × (Nat → Int32) × (Nat → Int32)) => r = nI fx ∧ (match u with | (le2, g, gl, gn) => FXI gl gn (fx + 1) ∧ le2 ≤ fx ∧ rowl gl fx (le2 + 1) = (EX ([] : List Nat) (LNE f_ pa1) ++ [fx]).reverse ∧ gn fx = nI (le2 + 1) ∧ (∀ j, j < fx * 16 → gl j = ffl j) ∧ ∀ i, i < fx → gn i = ffn i)) (fun u t => match u with | (le2, g, gl, gn) => post_ D (va_A [(h, .inr (6, [.ref st, .int (nI fx), .ref fl, .ref fn, .ref li, .int (nI le), .ref rc, .int (nI rn_), .int rb])), (fl, .inl (cI, 256, .inl ffl)), (fn, .inl (cI, 16, .inl ffn)), (li, .inl (cI, 32, .inl fli))] sz) [(h, .inr (6, [.ref st, .int (nI (fx + 1)), .ref fl, .ref fn, .ref li, .int (nI le2), .ref rc, .int (nI rn_), .int rb])), (fl, .inl (cI, 256, .inl gl)), (fn, .inl (cI, 16, .inl gn)), (li, .inl (cI, 32, .inl g))] t) (va_A [(h, .inr (6, [.ref st, .int (nI fx), .ref fl, .ref fn, .ref li, .int (nI le), .ref rc, .int (nI rn_), .int rb])), (fl, .inl (cI, 256, .inl ffl)), (fn, .inl (cI, 16, .inl ffn)), (li, .inl (cI, 32, .inl fli))] sz)) 0 0 (va_A [(h, .inr (6, [.ref st, .int (nI fx), .ref fl, .ref fn, .ref li, .int (nI le), .ref rc, .int (nI rn_), .int rb])), (fl, .inl (cI, 256, .inl ffl)), (fn, .inl (cI, 16, .inl ffn)), (li, .inl (cI, 32, .inl fli))] sz) := by
  refine Met.ofW (cc := prog_8_method_8_code) (maxL := 8) (ret := (some .int)) (by decide) rfl ?_
  intro p e s m args below meth c s₁ B hml hv
  obtain ⟨rfl, rfl, hP, hK, hD0, hT⟩ := hv
  have hx := B.exec
  have hb := B.bytes
  have hr := B.returns
  have hts0 := atoms_spec (ws := .code y_World_fix prog_8_method_8_code 8 (some .int) :: AW) B.pre
  have hts : ∀ w ∈ AW, w.before [.ref h, .int 1, .int (nI pa1), .int ba, .int ca].toArray s = true := fun w h => hts0 w (List.mem_cons_of_mem _ h)
  have hown : s.vm.findClass "TaleMachine$World" = some m.cls := findClass_of_methodNamed B.named
  have hlocks := B.notSynchronized
  have hD := hD0.self (sz := s.heap.size)
  generalize hAe : va_A [(h, .inr (6, [.ref st, .int (nI fx), .ref fl, .ref fn, .ref li, .int (nI le), .ref rc, .int (nI rn_), .int rb])), (fl, .inl (cI, 256, .inl ffl)), (fn, .inl (cI, 16, .inl ffn)), (li, .inl (cI, 32, .inl fli))] s.heap.size = A at hD ⊢
  have hA : ∀ q : Nat, s.heap.size ≤ q → A q := fun q h => by rw [← hAe]; exact Or.inr h
  have hS : va_S A s.heap s.heap [] := va_S.rf
  have hl := lv_entry ([.ref h, .int 1, .int (nI pa1), .int ba, .int ca]) (n := 8) (Nat.le_of_ble_eq_true rfl)
  rw [lg_entry_eq]
  generalize (lg_sl ([.ref h, .int 1, .int (nI pa1), .int ba, .int ca]) ++ List.replicate (8 - (lg_sl ([.ref h, .int 1, .int (nI pa1), .int ba, .int ca])).length) Slot.unset).toArray = ls at hl ⊢
  have hl : lv_has ls 8 [(0, .ref h), (1, .int 1), (2, .int (nI pa1)), (3, .int ba), (4, .int ca)] := hl
  refine lv_aload_n hx hb d_World_fix_0 rfl (lv_at hl 0 rfl) ?_
  refine lv_iconst (v := 0) hx hb d_World_fix_1 (by decide) ?_
  refine va_put (D := D) (ci := 6) (v := .int 0) (ty := .int) (C := "TaleMachine$World") (T := F_World) (N := 9) hx hb hts in_World t_World t_World_ok n_World hown hK hP hD hS 0 rfl rfl 5 (by decide) (hts _ k_67) (fun _ h9 => h9) rfl (by decide +kernel) rfl rfl (Nat.le_of_ble_eq_true rfl) d_World_fix_2 (fun H locs hP hD hS => ?_)
  have hP : va_P D cL [(h, .inr (6, [.ref st, .int (nI fx), .ref fl, .ref fn, .ref li, .int 0, .ref rc, .int (nI rn_), .int rb])), (fl, .inl (cI, 256, .inl ffl)), (fn, .inl (cI, 16, .inl ffn)), (li, .inl (cI, 32, .inl fli))] H := hP
  have hD : va_D A [(h, .inr (6, [.ref st, .int (nI fx), .ref fl, .ref fn, .ref li, .int 0, .ref rc, .int (nI rn_), .int rb])), (fl, .inl (cI, 256, .inl ffl)), (fn, .inl (cI, 16, .inl ffn)), (li, .inl (cI, 32, .inl fli))] := hD
  refine lv_iconst (v := 0) hx hb d_World_fix_5 (by decide) ?_
  refine lv_istore (lv' := [(5, .int 0), (0, .ref h), (1, .int 1), (2, .int (nI pa1)), (3, .int ba), (4, .int ca)]) hx hb d_World_fix_6 hl (by decide) rfl (fun ls hl => ?_)
  refine lv_iload_n hx hb d_World_fix_8 rfl (lv_at hl 2 rfl) ?_
  refine lv_iconst (v := 1) hx hb d_World_fix_9 (by decide) ?_
  refine lv_isub hx hb d_World_fix_10 ?_
  refine lv_topi (fun z1 hz1 => ?_)
  obtain rfl : z1 = 0 := hz1.trans (by decide)
  refine lv_istore (lv' := [(6, .int 0), (5, .int 0), (0, .ref h), (1, .int 1), (2, .int (nI pa1)), (3, .int ba), (4, .int ca)]) hx hb d_World_fix_11 hl (by decide) rfl (fun ls hl => ?_)
  refine lv_iload hx hb d_World_fix_13 (lv_at hl 0 rfl) ?_
  refine lv_if_lt hx hb d_World_fix_15 (tgt := 53) (by decide) (fun hz => absurd hz (by decide)) (fun _ => ?_)
  refine lv_aload_n hx hb d_World_fix_18 rfl (lv_at hl 2 rfl) ?_
  refine lv_iload hx hb d_World_fix_19 (lv_at hl 0 rfl) ?_
  refine lv_if_ne hx hb d_World_fix_21 (tgt := 28) (by decide) (fun hz => absurd (by decide) hz) (fun _ => ?_)
  refine lv_iload_n hx hb d_World_fix_24 rfl (lv_at hl 4 rfl) ?_
  refine lv_goto hx hb d_World_fix_25 (tgt := 40) (by decide) ?_
  refine lv_iload hx hb d_World_fix_40 (lv_at hl 1 rfl) ?_
  refine mv_i (va_runV (C := "TaleMachine$World") (As := [.int (nI pa1), .int 0]) (rest := []) ⟨hx, hb, hml, hown, hts⟩ (y_gather l D cI cZ cJ h st fl fn li rc 0 0 0 fx 0 rn_ rb pa1 0 ffl ffn fli f_ (([] : List Nat)) _ (by omega) (by first | assumption | omega | decide) (by first | assumption | omega | decide) (by first | assumption | omega | decide) (by first | assumption | omega | decide) GAX.zero) (cwV 2 hts (gInV k_544 k_545 k_901 k_3 k_546) rfl rfl rfl (by decide +kernel) ⟨Nat.le_of_ble_eq_true rfl, Nat.le_of_ble_eq_true rfl⟩) (pre_V (va_recv hK hP (q := ("TaleMachine$World", F_World, 9)) rfl (q0 := 0) rfl) (hP.sub [0, 1, 2, 3] rfl) (hK.sub [0, 1, 2] rfl) (hD.sub [0, 1, 2, 3] (by decide) rfl) hT) rfl rfl hl.1 rfl (lv_room (Nat.le_of_ble_eq_true rfl)) d_World_fix_42 ⟨Nat.le_of_ble_eq_true rfl, Nat.le_of_ble_eq_true rfl⟩) hP hD hS hA [0, 1, 2, 3] [] rfl rfl (by decide) (by decide) (wr := []) (wn := fun u => match u with | (le2, g) => [(h, .inr (6, [.ref st, .int (nI fx), .ref fl, .ref fn, .ref li, .int (nI le2), .ref rc, .int (nI rn_), .int rb])), (fl, .inl (cI, 256, .inl ffl)), (fn, .inl (cI, 16, .inl ffn)), (li, .inl (cI, 32, .inl g))]) (fun _ _ h9 => h9) (fun r4 u H locs hp5 hP hD hS => ?_)
  obtain ⟨a2, a3⟩ := u
  dsimp only at hp5
  have hP : va_P D cL [(h, .inr (6, [.ref st, .int (nI fx), .ref fl, .ref fn, .ref li, .int (nI a2), .ref rc, .int (nI rn_), .int rb])), (fl, .inl (cI, 256, .inl ffl)), (fn, .inl (cI, 16, .inl ffn)), (li, .inl (cI, 32, .inl a3))] H := hP
  have hD : va_D A [(h, .inr (6, [.ref st, .int (nI fx), .ref fl, .ref fn, .ref li, .int (nI a2), .ref rc, .int (nI rn_), .int rb])), (fl, .inl (cI, 256, .inl ffl)), (fn, .inl (cI, 16, .inl ffn)), (li, .inl (cI, 32, .inl a3))] := hD
  refine lv_istore (lv' := [(5, .int r4), (6, .int 0), (0, .ref h), (1, .int 1), (2, .int (nI pa1)), (3, .int ba), (4, .int ca)]) hx hb d_World_fix_45 hl (by decide) rfl (fun ls hl => ?_)
  refine lv_iinc (v := (-1)) (lv' := [(6, .int (-1)), (5, .int r4), (0, .ref h), (1, .int 1), (2, .int (nI pa1)), (3, .int ba), (4, .int ca)]) hx hb d_World_fix_47 hl (k := 1) rfl (by decide) (by decide) rfl (fun ls hl => ?_)
  refine lv_goto hx hb d_World_fix_50 (tgt := 13) (by decide) ?_
  refine lv_iload hx hb d_World_fix_13 (lv_at hl 0 rfl) ?_
  refine lv_if_lt hx hb d_World_fix_15 (tgt := 53) (by decide) (fun _ => ?_) (fun hz => absurd (by decide) hz)
  have hGA := hp5
  have hGl := hGA.1.le
  have hGn := hGA.len
  refine lv_aload_n hx hb d_World_fix_53 rfl (lv_at hl 2 rfl) ?_
  refine va_get (D := D) (ci := 6) (v := .int (nI fx)) (C := "TaleMachine$World") (T := F_World) (N := 9) hx hb hts in_World hown hK hP 0 rfl rfl 1 (by decide) (hts _ k_62) (fun _ h9 => h9) rfl d_World_fix_54 ?_
  refine lv_bipush (v := 16) hx hb d_World_fix_57 (by decide) ?_
  refine lv_imul hx hb d_World_fix_59 ?_
  refine lv_topi (fun z6 hz6 => ?_)
  obtain rfl : z6 = nI (fx * 16) := hz6.trans (pk_mul fx 16)
  refine lv_istore (lv' := [(6, .int (nI (fx * 16))), (5, .int r4), (0, .ref h), (1, .int 1), (2, .int (nI pa1)), (3, .int ba), (4, .int ca)]) hx hb d_World_fix_60 hl (by decide) rfl (fun ls hl => ?_)
  refine lv_aload_n hx hb d_World_fix_62 rfl (lv_at hl 2 rfl) ?_
  refine va_get (D := D) (ci := 6) (v := .ref fl) (C := "TaleMachine$World") (T := F_World) (N := 9) hx hb hts in_World hown hK hP 0 rfl rfl 2 (by decide) (hts _ k_64) (fun _ h9 => h9) rfl d_World_fix_63 ?_
  refine lv_iload hx hb d_World_fix_66 (lv_at hl 0 rfl) ?_
  refine lv_aload_n hx hb d_World_fix_68 rfl (lv_at hl 2 rfl) ?_
  refine va_get (D := D) (ci := 6) (v := .int (nI fx)) (C := "TaleMachine$World") (T := F_World) (N := 9) hx hb hts in_World hown hK hP 0 rfl rfl 1 (by decide) (hts _ k_62) (fun _ h9 => h9) rfl d_World_fix_69 ?_
  refine ia_st hx hb hK hP hD hS 1 0 rfl rfl (k := fx * 16) (x := (nI fx)) (by omega) (by first | decide | assumption) d_World_fix_72 (fun H locs hP hD hS => ?_)
  have hP : va_P D cL [(h, .inr (6, [.ref st, .int (nI fx), .ref fl, .ref fn, .ref li, .int (nI a2), .ref rc, .int (nI rn_), .int rb])), (fl, .inl (cI, 256, .inl (upd ffl (fx * 16) (nI fx)))), (fn, .inl (cI, 16, .inl ffn)), (li, .inl (cI, 32, .inl a3))] H := hP
  have hD : va_D A [(h, .inr (6, [.ref st, .int (nI fx), .ref fl, .ref fn, .ref li, .int (nI a2), .ref rc, .int (nI rn_), .int rb])), (fl, .inl (cI, 256, .inl (upd ffl (fx * 16) (nI fx)))), (fn, .inl (cI, 16, .inl ffn)), (li, .inl (cI, 32, .inl a3))] := hD
  refine lv_iconst (v := 0) hx hb d_World_fix_73 (by decide) ?_
  refine lv_istore (lv' := [(7, .int 0), (6, .int (nI (fx * 16))), (5, .int r4), (0, .ref h), (1, .int 1), (2, .int (nI pa1)), (3, .int ba), (4, .int ca)]) hx hb d_World_fix_74 hl (by decide) rfl (fun ls hl => ?_)
  refine lp_W (I := fun k7 H locs ls => ∃ gl9 : Nat → Int32, (FXR ffl gl9 fx k7 (EX ([] : List Nat) (LNE f_ pa1)) ∧ FXP ffl gl9 fx k7) ∧ va_P D cL [(h, .inr (6, [.ref st, .int (nI fx), .ref fl, .ref fn, .ref li, .int (nI a2), .ref rc, .int (nI rn_), .int rb])), (fl, .inl (cI, 256, .inl gl9)), (fn, .inl (cI, 16, .inl ffn)), (li, .inl (cI, 32, .inl a3))] H ∧ va_D A [(h, .inr (6, [.ref st, .int (nI fx), .ref fl, .ref fn, .ref li, .int (nI a2), .ref rc, .int (nI rn_), .int rb])), (fl, .inl (cI, 256, .inl gl9)), (fn, .inl (cI, 16, .inl ffn)), (li, .inl (cI, 32, .inl a3))] ∧ va_S A s.heap H locs ∧ lv_has ls 8 [(7, .int (nI k7)), (6, .int (nI (fx * 16))), (5, .int r4), (0, .ref h), (1, .int 1), (2, .int (nI pa1)), (3, .int ba), (4, .int ca)]) (a := 0) (b := a2) (by omega) ?_ _ _ _ ⟨_, ⟨FXR.init, FXP.init⟩, hP, hD, hS, lv_sub hl [0, 1, 2, 3, 4, 5, 6, 7] rfl⟩
  intro k7 H locs ls hkak7 hkbk7 hI ih8
  obtain ⟨gl9, hIk7, hP, hD, hS, hl⟩ := hI
  rcases Nat.lt_or_ge k7 a2 with hkk7 | hkk7
  · refine lv_iload hx hb d_World_fix_76 (lv_at hl 0 rfl) ?_
    refine lv_aload_n hx hb d_World_fix_78 rfl (lv_at hl 3 rfl) ?_
    refine va_get (D := D) (ci := 6) (v := .int (nI a2)) (C := "TaleMachine$World") (T := F_World) (N := 9) hx hb hts in_World hown hK hP 0 rfl rfl 5 (by decide) (hts _ k_67) (fun _ h9 => h9) rfl d_World_fix_79 ?_
    refine lv_icmp_ge hx hb d_World_fix_82 (tgt := 117) (by decide) (fun hc9 => ?_) (fun hc9 => ?_)
    · have hc9N : a2 ≤ k7 := (nI_leI (a := a2) (b := k7) (by omega) (by omega)).mp hc9
      exact absurd hc9N (by omega)
    · have hc9N : ¬ a2 ≤ k7 := fun z9 => hc9 ((nI_leI (a := a2) (b := k7) (by omega) (by omega)).mpr z9)
      refine lv_aload_n hx hb d_World_fix_85 rfl (lv_at hl 3 rfl) ?_
      refine va_get (D := D) (ci := 6) (v := .ref fl) (C := "TaleMachine$World") (T := F_World) (N := 9) hx hb hts in_World hown hK hP 0 rfl rfl 2 (by decide) (hts _ k_64) (fun _ h9 => h9) rfl d_World_fix_86 ?_
      refine lv_iload hx hb d_World_fix_89 (lv_at hl 1 rfl) ?_
      refine lv_iconst (v := 1) hx hb d_World_fix_91 (by decide) ?_
      refine lv_iadd hx hb d_World_fix_92 ?_
      refine lv_topi (fun z10 hz10 => ?_)
      obtain rfl : z10 = nI ((fx * 16) + 1) := hz10.trans (nI_add (fx * 16) 1)
      refine lv_iload hx hb d_World_fix_93 (lv_at hl 0 rfl) ?_
      refine lv_iadd hx hb d_World_fix_95 ?_
      refine lv_topi (fun z11 hz11 => ?_)
      obtain rfl : z11 = nI (((fx * 16) + 1) + k7) := hz11.trans (nI_add ((fx * 16) + 1) k7)
      refine lv_aload_n hx hb d_World_fix_96 rfl (lv_at hl 3 rfl) ?_
      refine va_get (D := D) (ci := 6) (v := .ref li) (C := "TaleMachine$World") (T := F_World) (N := 9) hx hb hts in_World hown hK hP 0 rfl rfl 4 (by decide) (hts _ k_66) (fun _ h9 => h9) rfl d_World_fix_97 ?_
      refine lv_aload_n hx hb d_World_fix_100 rfl (lv_at hl 3 rfl) ?_
      refine va_get (D := D) (ci := 6) (v := .int (nI a2)) (C := "TaleMachine$World") (T := F_World) (N := 9) hx hb hts in_World hown hK hP 0 rfl rfl 5 (by decide) (hts _ k_67) (fun _ h9 => h9) rfl d_World_fix_101 ?_
      refine lv_iconst (v := 1) hx hb d_World_fix_104 (by decide) ?_
      refine lv_isub hx hb d_World_fix_105 ?_
      refine lv_topi (fun z12 hz12 => ?_)
      obtain rfl : z12 = nI (a2 - 1) := hz12.trans (pk_sub (a := a2) (b := 1) (by omega))
      refine lv_iload hx hb d_World_fix_106 (lv_at hl 0 rfl) ?_
      refine lv_isub hx hb d_World_fix_108 ?_
      refine lv_topi (fun z13 hz13 => ?_)
      obtain rfl : z13 = nI ((a2 - 1) - k7) := hz13.trans (pk_sub (a := a2 - 1) (b := k7) (by omega))
      refine ia_ld hx hb hK hP 3 0 rfl rfl (k := (a2 - 1) - k7) (by omega) (by first | decide | assumption) d_World_fix_109 ?_
      obtain ⟨q9, hq9, hqe9⟩ := hGA.1.2.1 ((a2 - 1) - k7) (by omega)
      obtain ⟨hl9, hqi9⟩ := hGA.at (k := ((a2 - 1) - k7)) (by omega) hqe9 (by omega)
      refine lv_topi (fun z14 hz14 => ?_)
      obtain rfl : z14 = (nI q9) := hz14.trans (hqe9)
      refine ia_st hx hb hK hP hD hS 1 0 rfl rfl (k := ((fx * 16) + 1) + k7) (x := (nI q9)) (by omega) (by first | decide | assumption) d_World_fix_110 (fun H locs hP hD hS => ?_)
      have hP : va_P D cL [(h, .inr (6, [.ref st, .int (nI fx), .ref fl, .ref fn, .ref li, .int (nI a2), .ref rc, .int (nI rn_), .int rb])), (fl, .inl (cI, 256, .inl (upd gl9 (((fx * 16) + 1) + k7) (nI q9)))), (fn, .inl (cI, 16, .inl ffn)), (li, .inl (cI, 32, .inl a3))] H := hP
      have hD : va_D A [(h, .inr (6, [.ref st, .int (nI fx), .ref fl, .ref fn, .ref li, .int (nI a2), .ref rc, .int (nI rn_), .int rb])), (fl, .inl (cI, 256, .inl (upd gl9 (((fx * 16) + 1) + k7) (nI q9)))), (fn, .inl (cI, 16, .inl ffn)), (li, .inl (cI, 32, .inl a3))] := hD
      refine lv_iinc (v := (nI (k7 + 1))) (lv' := [(7, .int (nI (k7 + 1))), (6, .int (nI (fx * 16))), (5, .int r4), (0, .ref h), (1, .int 1), (2, .int (nI pa1)), (3, .int ba), (4, .int ca)]) hx hb d_World_fix_111 hl (k := 0) rfl (nI_1 k7) (by decide) rfl (fun ls hl => ?_)
      refine lv_goto hx hb d_World_fix_114 (tgt := 76) (by decide) ?_
      exact ih8 hkk7 _ _ _ ⟨_, ⟨hIk7.1.step2 hGn hl9 hqi9, hIk7.2.step hq9⟩, hP, hD, hS, lv_sub hl [0, 1, 2, 3, 4, 5, 6, 7] rfl⟩
  · have hkk7 : k7 = a2 := by omega
    refine lv_iload hx hb d_World_fix_76 (lv_at hl 0 rfl) ?_
    refine lv_aload_n hx hb d_World_fix_78 rfl (lv_at hl 3 rfl) ?_
    refine va_get (D := D) (ci := 6) (v := .int (nI a2)) (C := "TaleMachine$World") (T := F_World) (N := 9) hx hb hts in_World hown hK hP 0 rfl rfl 5 (by decide) (hts _ k_67) (fun _ h9 => h9) rfl d_World_fix_79 ?_
    refine lv_icmp_ge hx hb d_World_fix_82 (tgt := 117) (by decide) (fun hc15 => ?_) (fun hc15 => ?_)
    · have hc15N : a2 ≤ k7 := (nI_leI (a := a2) (b := k7) (by omega) (by omega)).mp hc15
      refine lv_aload_n hx hb d_World_fix_117 rfl (lv_at hl 3 rfl) ?_
      refine va_get (D := D) (ci := 6) (v := .ref fn) (C := "TaleMachine$World") (T := F_World) (N := 9) hx hb hts in_World hown hK hP 0 rfl rfl 3 (by decide) (hts _ k_65) (fun _ h9 => h9) rfl d_World_fix_118 ?_
      refine lv_aload_n hx hb d_World_fix_121 rfl (lv_at hl 3 rfl) ?_
      refine va_get (D := D) (ci := 6) (v := .int (nI fx)) (C := "TaleMachine$World") (T := F_World) (N := 9) hx hb hts in_World hown hK hP 0 rfl rfl 1 (by decide) (hts _ k_62) (fun _ h9 => h9) rfl d_World_fix_122 ?_
      refine lv_aload_n hx hb d_World_fix_125 rfl (lv_at hl 3 rfl) ?_
      refine va_get (D := D) (ci := 6) (v := .int (nI a2)) (C := "TaleMachine$World") (T := F_World) (N := 9) hx hb hts in_World hown hK hP 0 rfl rfl 5 (by decide) (hts _ k_67) (fun _ h9 => h9) rfl d_World_fix_126 ?_
      refine lv_iconst (v := 1) hx hb d_World_fix_129 (by decide) ?_
      refine lv_iadd hx hb d_World_fix_130 ?_
      refine lv_topi (fun z16 hz16 => ?_)
      obtain rfl : z16 = nI (a2 + 1) := hz16.trans (nI_add a2 1)
      refine ia_st hx hb hK hP hD hS 2 0 rfl rfl (k := fx) (x := (nI (a2 + 1))) (by omega) (by first | decide | assumption) d_World_fix_131 (fun H locs hP hD hS => ?_)
      have hP : va_P D cL [(h, .inr (6, [.ref st, .int (nI fx), .ref fl, .ref fn, .ref li, .int (nI a2), .ref rc, .int (nI rn_), .int rb])), (fl, .inl (cI, 256, .inl gl9)), (fn, .inl (cI, 16, .inl (upd ffn fx (nI (a2 + 1))))), (li, .inl (cI, 32, .inl a3))] H := hP
      have hD : va_D A [(h, .inr (6, [.ref st, .int (nI fx), .ref fl, .ref fn, .ref li, .int (nI a2), .ref rc, .int (nI rn_), .int rb])), (fl, .inl (cI, 256, .inl gl9)), (fn, .inl (cI, 16, .inl (upd ffn fx (nI (a2 + 1))))), (li, .inl (cI, 32, .inl a3))] := hD
      refine lv_aload_n hx hb d_World_fix_132 rfl (lv_at hl 3 rfl) ?_
      refine lv_dup hx hb d_World_fix_133 rfl ?_
      refine va_get (D := D) (ci := 6) (v := .int (nI fx)) (C := "TaleMachine$World") (T := F_World) (N := 9) hx hb hts in_World hown hK hP 0 rfl rfl 1 (by decide) (hts _ k_62) (fun _ h9 => h9) rfl d_World_fix_134 ?_
      refine lv_iconst (v := 1) hx hb d_World_fix_137 (by decide) ?_
      refine lv_iadd hx hb d_World_fix_138 ?_
      refine lv_topi (fun z17 hz17 => ?_)
      obtain rfl : z17 = nI (fx + 1) := hz17.trans (nI_add fx 1)
      refine va_put (D := D) (ci := 6) (v := .int (nI (fx + 1))) (ty := .int) (C := "TaleMachine$World") (T := F_World) (N := 9) hx hb hts in_World t_World t_World_ok n_World hown hK hP hD hS 0 rfl rfl 1 (by decide) (hts _ k_62) (fun _ h9 => h9) rfl (by decide +kernel) rfl rfl (Nat.le_of_ble_eq_true rfl) d_World_fix_139 (fun H locs hP hD hS => ?_)
      have hP : va_P D cL [(h, .inr (6, [.ref st, .int (nI (fx + 1)), .ref fl, .ref fn, .ref li, .int (nI a2), .ref rc, .int (nI rn_), .int rb])), (fl, .inl (cI, 256, .inl gl9)), (fn, .inl (cI, 16, .inl (upd ffn fx (nI (a2 + 1))))), (li, .inl (cI, 32, .inl a3))] H := hP
      have hD : va_D A [(h, .inr (6, [.ref st, .int (nI (fx + 1)), .ref fl, .ref fn, .ref li, .int (nI a2), .ref rc, .int (nI rn_), .int rb])), (fl, .inl (cI, 256, .inl gl9)), (fn, .inl (cI, 16, .inl (upd ffn fx (nI (a2 + 1))))), (li, .inl (cI, 32, .inl a3))] := hD
      refine lv_aload_n hx hb d_World_fix_142 rfl (lv_at hl 3 rfl) ?_
      refine va_get (D := D) (ci := 6) (v := .int (nI (fx + 1))) (C := "TaleMachine$World") (T := F_World) (N := 9) hx hb hts in_World hown hK hP 0 rfl rfl 1 (by decide) (hts _ k_62) (fun _ h9 => h9) rfl d_World_fix_143 ?_
      refine lv_iconst (v := 1) hx hb d_World_fix_146 (by decide) ?_
      refine lv_isub hx hb d_World_fix_147 ?_
      refine lv_topi (fun z18 hz18 => ?_)
      obtain rfl : z18 = nI ((fx + 1) - 1) := hz18.trans (pk_sub (a := fx + 1) (b := 1) (by omega))
      exact end_i hx hb hr hlocks hS (u := (a2, a3, gl9, upd ffn fx (nI (a2 + 1)))) (r := (nI ((fx + 1) - 1))) (at_end (hP.sub (ws' := [(h, .inr (6, [.ref st, .int (nI (fx + 1)), .ref fl, .ref fn, .ref li, .int (nI a2), .ref rc, .int (nI rn_), .int rb])), (fl, .inl (cI, 256, .inl gl9)), (fn, .inl (cI, 16, .inl (upd ffn fx (nI (a2 + 1))))), (li, .inl (cI, 32, .inl a3))]) [0, 1, 2, 3] rfl) (hD.sub (ws' := [(h, .inr (6, [.ref st, .int (nI (fx + 1)), .ref fl, .ref fn, .ref li, .int (nI a2), .ref rc, .int (nI rn_), .int rb])), (fl, .inl (cI, 256, .inl gl9)), (fn, .inl (cI, 16, .inl (upd ffn fx (nI (a2 + 1))))), (li, .inl (cI, 32, .inl a3))]) [0, 1, 2, 3] (by decide) rfl)) (⟨by first | rfl | exact (congrArg nI (by omega)), hX.new hfx hGl (by have z9 := hIk7.2; rw [hkk7] at z9; exact z9), hGl, by have z9 := hIk7.1; rw [hkk7, ← hGn] at z9; have z8 := z9.row (by omega) (fun x hx => by have := hGA.mem (by omega) x hx; omega); rw [hGn] at z8; exact z8, pk_us, fun j hj => hIk7.1.2.2 j (Or.inl hj), fun i hi => pk_un (by omega)⟩) (Nat.le_of_ble_eq_true rfl) (Nat.le_of_ble_eq_true rfl) d_World_fix_148
    · have hc15N : ¬ a2 ≤ k7 := fun z9 => hc15 ((nI_leI (a := a2) (b := k7) (by omega) (by omega)).mpr z9)
      exact absurd hc15N (by omega)

set_option maxHeartbeats 4000000 in
set_option maxRecDepth 100000 in
theorem y_fix_2 (l : Launch) (D : va_G) (cI cZ cJ : ClassId) (h st fl fn li rc kd it pa : Nat) (fx le rn_ : Nat) (rb : Int32) (aa ba ca : Int32) (pa1 pa2 pa3 : Nat) (ffl ffn fli : Nat → Int32) (f_ : Nat → Int32) (sz : Nat) (hfx : fx < 16) (hp1 : pa1 < fx) (hp2 : pa2 < fx) (hX : FXI ffl ffn fx) (hrw : ∀ i, i < fx → f_ (29 * i) = 1 ∧ ∃ m, m ≤ i + 1 ∧ ffn i = nI m ∧ rowl ffl i m = (LNE f_ i).reverse) (hw : ∃ rk, WP f_ rk) : Met l y_World_fix (.code y_World_fix prog_8_method_8_code 8 (some .int) :: AW) ({ frames := 1, cells := 0, slots := 0, locals := 25 }) (va_Pc [.ref h, .int 2, .int (nI pa1), .int (nI pa2), .int ca] (pre_ D [(h, .inr (6, [.ref st, .int (nI fx), .ref fl, .ref fn, .ref li, .int (nI le), .ref rc, .int (nI rn_), .int rb])), (fl, .inl (cI, 256, .inl ffl)), (fn, .inl (cI, 16, .inl ffn)), (li, .inl (cI, 32, .inl fli))] [(cI, .int), (cZ, .boolean), (cJ, .long)] sz)) (va_Qi (fun (r : Int32) (u : Nat × (Nat → Int32) × (Nat → Int32) × (Nat → Int32)) => r = nI fx ∧ (match u with | (le2, g, gl, gn) => FXI gl gn (fx + 1) ∧ le2 ≤ fx ∧ rowl gl fx (le2 + 1) = (EX (EX ([] : List Nat) (LNE f_ pa2)) (LNE f_ pa1) ++ [fx]).reverse ∧ gn fx = nI (le2 + 1) ∧ (∀ j, j < fx * 16 → gl j = ffl j) ∧ ∀ i, i < fx → gn i = ffn i)) (fun u t => match u with | (le2, g, gl, gn) => post_ D (va_A [(h, .inr (6, [.ref st, .int (nI fx), .ref fl, .ref fn, .ref li, .int (nI le), .ref rc, .int (nI rn_), .int rb])), (fl, .inl (cI, 256, .inl ffl)), (fn, .inl (cI, 16, .inl ffn)), (li, .inl (cI, 32, .inl fli))] sz) [(h, .inr (6, [.ref st, .int (nI (fx + 1)), .ref fl, .ref fn, .ref li, .int (nI le2), .ref rc, .int (nI rn_), .int rb])), (fl, .inl (cI, 256, .inl gl)), (fn, .inl (cI, 16, .inl gn)), (li, .inl (cI, 32, .inl g))] t) (va_A [(h, .inr (6, [.ref st, .int (nI fx), .ref fl, .ref fn, .ref li, .int (nI le), .ref rc, .int (nI rn_), .int rb])), (fl, .inl (cI, 256, .inl ffl)), (fn, .inl (cI, 16, .inl ffn)), (li, .inl (cI, 32, .inl fli))] sz)) 0 0 (va_A [(h, .inr (6, [.ref st, .int (nI fx), .ref fl, .ref fn, .ref li, .int (nI le), .ref rc, .int (nI rn_), .int rb])), (fl, .inl (cI, 256, .inl ffl)), (fn, .inl (cI, 16, .inl ffn)), (li, .inl (cI, 32, .inl fli))] sz) := by
  refine Met.ofW (cc := prog_8_method_8_code) (maxL := 8) (ret := (some .int)) (by decide) rfl ?_
  intro p e s m args below meth c s₁ B hml hv
  obtain ⟨rfl, rfl, hP, hK, hD0, hT⟩ := hv
  have hx := B.exec
  have hb := B.bytes
  have hr := B.returns
  have hts0 := atoms_spec (ws := .code y_World_fix prog_8_method_8_code 8 (some .int) :: AW) B.pre
  have hts : ∀ w ∈ AW, w.before [.ref h, .int 2, .int (nI pa1), .int (nI pa2), .int ca].toArray s = true := fun w h => hts0 w (List.mem_cons_of_mem _ h)
  have hown : s.vm.findClass "TaleMachine$World" = some m.cls := findClass_of_methodNamed B.named
  have hlocks := B.notSynchronized
  have hD := hD0.self (sz := s.heap.size)
  generalize hAe : va_A [(h, .inr (6, [.ref st, .int (nI fx), .ref fl, .ref fn, .ref li, .int (nI le), .ref rc, .int (nI rn_), .int rb])), (fl, .inl (cI, 256, .inl ffl)), (fn, .inl (cI, 16, .inl ffn)), (li, .inl (cI, 32, .inl fli))] s.heap.size = A at hD ⊢
  have hA : ∀ q : Nat, s.heap.size ≤ q → A q := fun q h => by rw [← hAe]; exact Or.inr h
  have hS : va_S A s.heap s.heap [] := va_S.rf
  have hl := lv_entry ([.ref h, .int 2, .int (nI pa1), .int (nI pa2), .int ca]) (n := 8) (Nat.le_of_ble_eq_true rfl)
  rw [lg_entry_eq]
  generalize (lg_sl ([.ref h, .int 2, .int (nI pa1), .int (nI pa2), .int ca]) ++ List.replicate (8 - (lg_sl ([.ref h, .int 2, .int (nI pa1), .int (nI pa2), .int ca])).length) Slot.unset).toArray = ls at hl ⊢
  have hl : lv_has ls 8 [(0, .ref h), (1, .int 2), (2, .int (nI pa1)), (3, .int (nI pa2)), (4, .int ca)] := hl
  refine lv_aload_n hx hb d_World_fix_0 rfl (lv_at hl 0 rfl) ?_
  refine lv_iconst (v := 0) hx hb d_World_fix_1 (by decide) ?_
  refine va_put (D := D) (ci := 6) (v := .int 0) (ty := .int) (C := "TaleMachine$World") (T := F_World) (N := 9) hx hb hts in_World t_World t_World_ok n_World hown hK hP hD hS 0 rfl rfl 5 (by decide) (hts _ k_67) (fun _ h9 => h9) rfl (by decide +kernel) rfl rfl (Nat.le_of_ble_eq_true rfl) d_World_fix_2 (fun H locs hP hD hS => ?_)
  have hP : va_P D cL [(h, .inr (6, [.ref st, .int (nI fx), .ref fl, .ref fn, .ref li, .int 0, .ref rc, .int (nI rn_), .int rb])), (fl, .inl (cI, 256, .inl ffl)), (fn, .inl (cI, 16, .inl ffn)), (li, .inl (cI, 32, .inl fli))] H := hP
  have hD : va_D A [(h, .inr (6, [.ref st, .int (nI fx), .ref fl, .ref fn, .ref li, .int 0, .ref rc, .int (nI rn_), .int rb])), (fl, .inl (cI, 256, .inl ffl)), (fn, .inl (cI, 16, .inl ffn)), (li, .inl (cI, 32, .inl fli))] := hD
  refine lv_iconst (v := 0) hx hb d_World_fix_5 (by decide) ?_
  refine lv_istore (lv' := [(5, .int 0), (0, .ref h), (1, .int 2), (2, .int (nI pa1)), (3, .int (nI pa2)), (4, .int ca)]) hx hb d_World_fix_6 hl (by decide) rfl (fun ls hl => ?_)
  refine lv_iload_n hx hb d_World_fix_8 rfl (lv_at hl 2 rfl) ?_
  refine lv_iconst (v := 1) hx hb d_World_fix_9 (by decide) ?_
  refine lv_isub hx hb d_World_fix_10 ?_
  refine lv_topi (fun z1 hz1 => ?_)
  obtain rfl : z1 = 1 := hz1.trans (by decide)
  refine lv_istore (lv' := [(6, .int 1), (5, .int 0), (0, .ref h), (1, .int 2), (2, .int (nI pa1)), (3, .int (nI pa2)), (4, .int ca)]) hx hb d_World_fix_11 hl (by decide) rfl (fun ls hl => ?_)
  refine lv_iload hx hb d_World_fix_13 (lv_at hl 0 rfl) ?_
  refine lv_if_lt hx hb d_World_fix_15 (tgt := 53) (by decide) (fun hz => absurd hz (by decide)) (fun _ => ?_)
  refine lv_aload_n hx hb d_World_fix_18 rfl (lv_at hl 2 rfl) ?_
  refine lv_iload hx hb d_World_fix_19 (lv_at hl 0 rfl) ?_
  refine lv_if_ne hx hb d_World_fix_21 (tgt := 28) (by decide) (fun _ => ?_) (fun hz => absurd hz (by decide))
  refine lv_iload hx hb d_World_fix_28 (lv_at hl 0 rfl) ?_
  refine lv_iconst (v := 1) hx hb d_World_fix_30 (by decide) ?_
  refine lv_icmp_ne hx hb d_World_fix_31 (tgt := 38) (by decide) (fun hz => absurd (by decide) hz) (fun _ => ?_)
  refine lv_iload_n hx hb d_World_fix_34 rfl (lv_at hl 5 rfl) ?_
  refine lv_goto hx hb d_World_fix_35 (tgt := 40) (by decide) ?_
  refine lv_iload hx hb d_World_fix_40 (lv_at hl 1 rfl) ?_
  refine mv_i (va_runV (C := "TaleMachine$World") (As := [.int (nI pa2), .int 0]) (rest := []) ⟨hx, hb, hml, hown, hts⟩ (y_gather l D cI cZ cJ h st fl fn li rc 0 0 0 fx 0 rn_ rb pa2 0 ffl ffn fli f_ (([] : List Nat)) _ (by omega) (by first | assumption | omega | decide) (by first | assumption | omega | decide) (by first | assumption | omega | decide) (by first | assumption | omega | decide) GAX.zero) (cwV 2 hts (gInV k_544 k_545 k_901 k_3 k_546) rfl rfl rfl (by decide +kernel) ⟨Nat.le_of_ble_eq_true rfl, Nat.le_of_ble_eq_true rfl⟩) (pre_V (va_recv hK hP (q := ("TaleMachine$World", F_World, 9)) rfl (q0 := 0) rfl) (hP.sub [0, 1, 2, 3] rfl) (hK.sub [0, 1, 2] rfl) (hD.sub [0, 1, 2, 3] (by decide) rfl) hT) rfl rfl hl.1 rfl (lv_room (Nat.le_of_ble_eq_true rfl)) d_World_fix_42 ⟨Nat.le_of_ble_eq_true rfl, Nat.le_of_ble_eq_true rfl⟩) hP hD hS hA [0, 1, 2, 3] [] rfl rfl (by decide) (by decide) (wr := []) (wn := fun u => match u with | (le2, g) => [(h, .inr (6, [.ref st, .int (nI fx), .ref fl, .ref fn, .ref li, .int (nI le2), .ref rc, .int (nI rn_), .int rb])), (fl, .inl (cI, 256, .inl ffl)), (fn, .inl (cI, 16, .inl ffn)), (li, .inl (cI, 32, .inl g))]) (fun _ _ h9 => h9) (fun r4 u H locs hp5 hP hD hS => ?_)
  obtain ⟨a2, a3⟩ := u
  dsimp only at hp5
  have hP : va_P D cL [(h, .inr (6, [.ref st, .int (nI fx), .ref fl, .ref fn, .ref li, .int (nI a2), .ref rc, .int (nI rn_), .int rb])), (fl, .inl (cI, 256, .inl ffl)), (fn, .inl (cI, 16, .inl ffn)), (li, .inl (cI, 32, .inl a3))] H := hP
  have hD : va_D A [(h, .inr (6, [.ref st, .int (nI fx), .ref fl, .ref fn, .ref li, .int (nI a2), .ref rc, .int (nI rn_), .int rb])), (fl, .inl (cI, 256, .inl ffl)), (fn, .inl (cI, 16, .inl ffn)), (li, .inl (cI, 32, .inl a3))] := hD
  refine lv_istore (lv' := [(5, .int r4), (6, .int 1), (0, .ref h), (1, .int 2), (2, .int (nI pa1)), (3, .int (nI pa2)), (4, .int ca)]) hx hb d_World_fix_45 hl (by decide) rfl (fun ls hl => ?_)
  refine lv_iinc (v := 0) (lv' := [(6, .int 0), (5, .int r4), (0, .ref h), (1, .int 2), (2, .int (nI pa1)), (3, .int (nI pa2)), (4, .int ca)]) hx hb d_World_fix_47 hl (k := 1) rfl (by decide) (by decide) rfl (fun ls hl => ?_)
  refine lv_goto hx hb d_World_fix_50 (tgt := 13) (by decide) ?_
  refine lv_iload hx hb d_World_fix_13 (lv_at hl 0 rfl) ?_
  refine lv_if_lt hx hb d_World_fix_15 (tgt := 53) (by decide) (fun hz => absurd hz (by decide)) (fun _ => ?_)
  refine lv_aload_n hx hb d_World_fix_18 rfl (lv_at hl 2 rfl) ?_
  refine lv_iload hx hb d_World_fix_19 (lv_at hl 0 rfl) ?_
  refine lv_if_ne hx hb d_World_fix_21 (tgt := 28) (by decide) (fun hz => absurd (by decide) hz) (fun _ => ?_)
  refine lv_iload_n hx hb d_World_fix_24 rfl (lv_at hl 4 rfl) ?_
  refine lv_goto hx hb d_World_fix_25 (tgt := 40) (by decide) ?_
  refine lv_iload hx hb d_World_fix_40 (lv_at hl 1 rfl) ?_
  refine mv_i (va_runV (C := "TaleMachine$World") (As := [.int (nI pa1), .int r4]) (rest := []) ⟨hx, hb, hml, hown, hts⟩ (y_gather l D cI cZ cJ h st fl fn li rc 0 0 0 fx a2 rn_ rb pa1 r4 ffl ffn a3 f_ (EX ([] : List Nat) (LNE f_ pa2)) _ (by omega) (by first | assumption | omega | decide) (by first | assumption | omega | decide) (by first | assumption | omega | decide) (by first | assumption | omega | decide) hp5) (cwV 2 hts (gInV k_544 k_545 k_901 k_3 k_546) rfl rfl rfl (by decide +kernel) ⟨Nat.le_of_ble_eq_true rfl, Nat.le_of_ble_eq_true rfl⟩) (pre_V (va_recv hK hP (q := ("TaleMachine$World", F_World, 9)) rfl (q0 := 0) rfl) (hP.sub [0, 1, 2, 3] rfl) (hK.sub [0, 1, 2] rfl) (hD.sub [0, 1, 2, 3] (by decide) rfl) hT) rfl rfl hl.1 rfl (lv_room (Nat.le_of_ble_eq_true rfl)) d_World_fix_42 ⟨Nat.le_of_ble_eq_true rfl, Nat.le_of_ble_eq_true rfl⟩) hP hD hS hA [0, 1, 2, 3] [] rfl rfl (by decide) (by decide) (wr := []) (wn := fun u => match u with | (le2, g) => [(h, .inr (6, [.ref st, .int (nI fx), .ref fl, .ref fn, .ref li, .int (nI le2), .ref rc, .int (nI rn_), .int rb])), (fl, .inl (cI, 256, .inl ffl)), (fn, .inl (cI, 16, .inl ffn)), (li, .inl (cI, 32, .inl g))]) (fun _ _ h9 => h9) (fun r8 u H locs hp9 hP hD hS => ?_)
  obtain ⟨a6, a7⟩ := u
  dsimp only at hp9
  have hP : va_P D cL [(h, .inr (6, [.ref st, .int (nI fx), .ref fl, .ref fn, .ref li, .int (nI a6), .ref rc, .int (nI rn_), .int rb])), (fl, .inl (cI, 256, .inl ffl)), (fn, .inl (cI, 16, .inl ffn)), (li, .inl (cI, 32, .inl a7))] H := hP
  have hD : va_D A [(h, .inr (6, [.ref st, .int (nI fx), .ref fl, .ref fn, .ref li, .int (nI a6), .ref rc, .int (nI rn_), .int rb])), (fl, .inl (cI, 256, .inl ffl)), (fn, .inl (cI, 16, .inl ffn)), (li, .inl (cI, 32, .inl a7))] := hD
  refine lv_istore (lv' := [(5, .int r8), (6, .int 0), (0, .ref h), (1, .int 2), (2, .int (nI pa1)), (3, .int (nI pa2)), (4, .int ca)]) hx hb d_World_fix_45 hl (by decide) rfl (fun ls hl => ?_)
  refine lv_iinc (v := (-1)) (lv' := [(6, .int (-1)), (5, .int r8), (0, .ref h), (1, .int 2), (2, .int (nI pa1)), (3, .int (nI pa2)), (4, .int ca)]) hx hb d_World_fix_47 hl (k := 1) rfl (by decide) (by decide) rfl (fun ls hl => ?_)
  refine lv_goto hx hb d_World_fix_50 (tgt := 13) (by decide) ?_
  refine lv_iload hx hb d_World_fix_13 (lv_at hl 0 rfl) ?_
  refine lv_if_lt hx hb d_World_fix_15 (tgt := 53) (by decide) (fun _ => ?_) (fun hz => absurd (by decide) hz)
  have hGA := hp9
  have hGl := hGA.1.le
  have hGn := hGA.len
  refine lv_aload_n hx hb d_World_fix_53 rfl (lv_at hl 2 rfl) ?_
  refine va_get (D := D) (ci := 6) (v := .int (nI fx)) (C := "TaleMachine$World") (T := F_World) (N := 9) hx hb hts in_World hown hK hP 0 rfl rfl 1 (by decide) (hts _ k_62) (fun _ h9 => h9) rfl d_World_fix_54 ?_
  refine lv_bipush (v := 16) hx hb d_World_fix_57 (by decide) ?_
  refine lv_imul hx hb d_World_fix_59 ?_
  refine lv_topi (fun z10 hz10 => ?_)
  obtain rfl : z10 = nI (fx * 16) := hz10.trans (pk_mul fx 16)
  refine lv_istore (lv' := [(6, .int (nI (fx * 16))), (5, .int r8), (0, .ref h), (1, .int 2), (2, .int (nI pa1)), (3, .int (nI pa2)), (4, .int ca)]) hx hb d_World_fix_60 hl (by decide) rfl (fun ls hl => ?_)
  refine lv_aload_n hx hb d_World_fix_62 rfl (lv_at hl 2 rfl) ?_
  refine va_get (D := D) (ci := 6) (v := .ref fl) (C := "TaleMachine$World") (T := F_World) (N := 9) hx hb hts in_World hown hK hP 0 rfl rfl 2 (by decide) (hts _ k_64) (fun _ h9 => h9) rfl d_World_fix_63 ?_
  refine lv_iload hx hb d_World_fix_66 (lv_at hl 0 rfl) ?_
  refine lv_aload_n hx hb d_World_fix_68 rfl (lv_at hl 2 rfl) ?_
  refine va_get (D := D) (ci := 6) (v := .int (nI fx)) (C := "TaleMachine$World") (T := F_World) (N := 9) hx hb hts in_World hown hK hP 0 rfl rfl 1 (by decide) (hts _ k_62) (fun _ h9 => h9) rfl d_World_fix_69 ?_
  refine ia_st hx hb hK hP hD hS 1 0 rfl rfl (k := fx * 16) (x := (nI fx)) (by omega) (by first | decide | assumption) d_World_fix_72 (fun H locs hP hD hS => ?_)
  have hP : va_P D cL [(h, .inr (6, [.ref st, .int (nI fx), .ref fl, .ref fn, .ref li, .int (nI a6), .ref rc, .int (nI rn_), .int rb])), (fl, .inl (cI, 256, .inl (upd ffl (fx * 16) (nI fx)))), (fn, .inl (cI, 16, .inl ffn)), (li, .inl (cI, 32, .inl a7))] H := hP
  have hD : va_D A [(h, .inr (6, [.ref st, .int (nI fx), .ref fl, .ref fn, .ref li, .int (nI a6), .ref rc, .int (nI rn_), .int rb])), (fl, .inl (cI, 256, .inl (upd ffl (fx * 16) (nI fx)))), (fn, .inl (cI, 16, .inl ffn)), (li, .inl (cI, 32, .inl a7))] := hD
  refine lv_iconst (v := 0) hx hb d_World_fix_73 (by decide) ?_
  refine lv_istore (lv' := [(7, .int 0), (6, .int (nI (fx * 16))), (5, .int r8), (0, .ref h), (1, .int 2), (2, .int (nI pa1)), (3, .int (nI pa2)), (4, .int ca)]) hx hb d_World_fix_74 hl (by decide) rfl (fun ls hl => ?_)
  refine lp_W (I := fun k11 H locs ls => ∃ gl9 : Nat → Int32, (FXR ffl gl9 fx k11 (EX (EX ([] : List Nat) (LNE f_ pa2)) (LNE f_ pa1)) ∧ FXP ffl gl9 fx k11) ∧ va_P D cL [(h, .inr (6, [.ref st, .int (nI fx), .ref fl, .ref fn, .ref li, .int (nI a6), .ref rc, .int (nI rn_), .int rb])), (fl, .inl (cI, 256, .inl gl9)), (fn, .inl (cI, 16, .inl ffn)), (li, .inl (cI, 32, .inl a7))] H ∧ va_D A [(h, .inr (6, [.ref st, .int (nI fx), .ref fl, .ref fn, .ref li, .int (nI a6), .ref rc, .int (nI rn_), .int rb])), (fl, .inl (cI, 256, .inl gl9)), (fn, .inl (cI, 16, .inl ffn)), (li, .inl (cI, 32, .inl a7))] ∧ va_S A s.heap H locs ∧ lv_has ls 8 [(7, .int (nI k11)), (6, .int (nI (fx * 16))), (5, .int r8), (0, .ref h), (1, .int 2), (2, .int (nI pa1)), (3, .int (nI pa2)), (4, .int ca)]) (a := 0) (b := a6) (by omega) ?_ _ _ _ ⟨_, ⟨FXR.init, FXP.init⟩, hP, hD, hS, lv_sub hl [0, 1, 2, 3, 4, 5, 6, 7] rfl⟩
  intro k11 H locs ls hkak11 hkbk11 hI ih12
  obtain ⟨gl9, hIk11, hP, hD, hS, hl⟩ := hI
  rcases Nat.lt_or_ge k11 a6 with hkk11 | hkk11
  · refine lv_iload hx hb d_World_fix_76 (lv_at hl 0 rfl) ?_
    refine lv_aload_n hx hb d_World_fix_78 rfl (lv_at hl 3 rfl) ?_
    refine va_get (D := D) (ci := 6) (v := .int (nI a6)) (C := "TaleMachine$World") (T := F_World) (N := 9) hx hb hts in_World hown hK hP 0 rfl rfl 5 (by decide) (hts _ k_67) (fun _ h9 => h9) rfl d_World_fix_79 ?_
    refine lv_icmp_ge hx hb d_World_fix_82 (tgt := 117) (by decide) (fun hc13 => ?_) (fun hc13 => ?_)
    · have hc13N : a6 ≤ k11 := (nI_leI (a := a6) (b := k11) (by omega) (by omega)).mp hc13
      exact absurd hc13N (by omega)
    · have hc13N : ¬ a6 ≤ k11 := fun z9 => hc13 ((nI_leI (a := a6) (b := k11) (by omega) (by omega)).mpr z9)
      refine lv_aload_n hx hb d_World_fix_85 rfl (lv_at hl 3 rfl) ?_
      refine va_get (D := D) (ci := 6) (v := .ref fl) (C := "TaleMachine$World") (T := F_World) (N := 9) hx hb hts in_World hown hK hP 0 rfl rfl 2 (by decide) (hts _ k_64) (fun _ h9 => h9) rfl d_World_fix_86 ?_
      refine lv_iload hx hb d_World_fix_89 (lv_at hl 1 rfl) ?_
      refine lv_iconst (v := 1) hx hb d_World_fix_91 (by decide) ?_
      refine lv_iadd hx hb d_World_fix_92 ?_
      refine lv_topi (fun z14 hz14 => ?_)
      obtain rfl : z14 = nI ((fx * 16) + 1) := hz14.trans (nI_add (fx * 16) 1)
      refine lv_iload hx hb d_World_fix_93 (lv_at hl 0 rfl) ?_
      refine lv_iadd hx hb d_World_fix_95 ?_
      refine lv_topi (fun z15 hz15 => ?_)
      obtain rfl : z15 = nI (((fx * 16) + 1) + k11) := hz15.trans (nI_add ((fx * 16) + 1) k11)
      refine lv_aload_n hx hb d_World_fix_96 rfl (lv_at hl 3 rfl) ?_
      refine va_get (D := D) (ci := 6) (v := .ref li) (C := "TaleMachine$World") (T := F_World) (N := 9) hx hb hts in_World hown hK hP 0 rfl rfl 4 (by decide) (hts _ k_66) (fun _ h9 => h9) rfl d_World_fix_97 ?_
      refine lv_aload_n hx hb d_World_fix_100 rfl (lv_at hl 3 rfl) ?_
      refine va_get (D := D) (ci := 6) (v := .int (nI a6)) (C := "TaleMachine$World") (T := F_World) (N := 9) hx hb hts in_World hown hK hP 0 rfl rfl 5 (by decide) (hts _ k_67) (fun _ h9 => h9) rfl d_World_fix_101 ?_
      refine lv_iconst (v := 1) hx hb d_World_fix_104 (by decide) ?_
      refine lv_isub hx hb d_World_fix_105 ?_
      refine lv_topi (fun z16 hz16 => ?_)
      obtain rfl : z16 = nI (a6 - 1) := hz16.trans (pk_sub (a := a6) (b := 1) (by omega))
      refine lv_iload hx hb d_World_fix_106 (lv_at hl 0 rfl) ?_
      refine lv_isub hx hb d_World_fix_108 ?_
      refine lv_topi (fun z17 hz17 => ?_)
      obtain rfl : z17 = nI ((a6 - 1) - k11) := hz17.trans (pk_sub (a := a6 - 1) (b := k11) (by omega))
      refine ia_ld hx hb hK hP 3 0 rfl rfl (k := (a6 - 1) - k11) (by omega) (by first | decide | assumption) d_World_fix_109 ?_
      obtain ⟨q9, hq9, hqe9⟩ := hGA.1.2.1 ((a6 - 1) - k11) (by omega)
      obtain ⟨hl9, hqi9⟩ := hGA.at (k := ((a6 - 1) - k11)) (by omega) hqe9 (by omega)
      refine lv_topi (fun z18 hz18 => ?_)
      obtain rfl : z18 = (nI q9) := hz18.trans (hqe9)
      refine ia_st hx hb hK hP hD hS 1 0 rfl rfl (k := ((fx * 16) + 1) + k11) (x := (nI q9)) (by omega) (by first | decide | assumption) d_World_fix_110 (fun H locs hP hD hS => ?_)
      have hP : va_P D cL [(h, .inr (6, [.ref st, .int (nI fx), .ref fl, .ref fn, .ref li, .int (nI a6), .ref rc, .int (nI rn_), .int rb])), (fl, .inl (cI, 256, .inl (upd gl9 (((fx * 16) + 1) + k11) (nI q9)))), (fn, .inl (cI, 16, .inl ffn)), (li, .inl (cI, 32, .inl a7))] H := hP
      have hD : va_D A [(h, .inr (6, [.ref st, .int (nI fx), .ref fl, .ref fn, .ref li, .int (nI a6), .ref rc, .int (nI rn_), .int rb])), (fl, .inl (cI, 256, .inl (upd gl9 (((fx * 16) + 1) + k11) (nI q9)))), (fn, .inl (cI, 16, .inl ffn)), (li, .inl (cI, 32, .inl a7))] := hD
      refine lv_iinc (v := (nI (k11 + 1))) (lv' := [(7, .int (nI (k11 + 1))), (6, .int (nI (fx * 16))), (5, .int r8), (0, .ref h), (1, .int 2), (2, .int (nI pa1)), (3, .int (nI pa2)), (4, .int ca)]) hx hb d_World_fix_111 hl (k := 0) rfl (nI_1 k11) (by decide) rfl (fun ls hl => ?_)
      refine lv_goto hx hb d_World_fix_114 (tgt := 76) (by decide) ?_
      exact ih12 hkk11 _ _ _ ⟨_, ⟨hIk11.1.step2 hGn hl9 hqi9, hIk11.2.step hq9⟩, hP, hD, hS, lv_sub hl [0, 1, 2, 3, 4, 5, 6, 7] rfl⟩
  · have hkk11 : k11 = a6 := by omega
    refine lv_iload hx hb d_World_fix_76 (lv_at hl 0 rfl) ?_
    refine lv_aload_n hx hb d_World_fix_78 rfl (lv_at hl 3 rfl) ?_
    refine va_get (D := D) (ci := 6) (v := .int (nI a6)) (C := "TaleMachine$World") (T := F_World) (N := 9) hx hb hts in_World hown hK hP 0 rfl rfl 5 (by decide) (hts _ k_67) (fun _ h9 => h9) rfl d_World_fix_79 ?_
    refine lv_icmp_ge hx hb d_World_fix_82 (tgt := 117) (by decide) (fun hc19 => ?_) (fun hc19 => ?_)
    · have hc19N : a6 ≤ k11 := (nI_leI (a := a6) (b := k11) (by omega) (by omega)).mp hc19
      refine lv_aload_n hx hb d_World_fix_117 rfl (lv_at hl 3 rfl) ?_
      refine va_get (D := D) (ci := 6) (v := .ref fn) (C := "TaleMachine$World") (T := F_World) (N := 9) hx hb hts in_World hown hK hP 0 rfl rfl 3 (by decide) (hts _ k_65) (fun _ h9 => h9) rfl d_World_fix_118 ?_
      refine lv_aload_n hx hb d_World_fix_121 rfl (lv_at hl 3 rfl) ?_
      refine va_get (D := D) (ci := 6) (v := .int (nI fx)) (C := "TaleMachine$World") (T := F_World) (N := 9) hx hb hts in_World hown hK hP 0 rfl rfl 1 (by decide) (hts _ k_62) (fun _ h9 => h9) rfl d_World_fix_122 ?_
      refine lv_aload_n hx hb d_World_fix_125 rfl (lv_at hl 3 rfl) ?_
      refine va_get (D := D) (ci := 6) (v := .int (nI a6)) (C := "TaleMachine$World") (T := F_World) (N := 9) hx hb hts in_World hown hK hP 0 rfl rfl 5 (by decide) (hts _ k_67) (fun _ h9 => h9) rfl d_World_fix_126 ?_
      refine lv_iconst (v := 1) hx hb d_World_fix_129 (by decide) ?_
      refine lv_iadd hx hb d_World_fix_130 ?_
      refine lv_topi (fun z20 hz20 => ?_)
      obtain rfl : z20 = nI (a6 + 1) := hz20.trans (nI_add a6 1)
      refine ia_st hx hb hK hP hD hS 2 0 rfl rfl (k := fx) (x := (nI (a6 + 1))) (by omega) (by first | decide | assumption) d_World_fix_131 (fun H locs hP hD hS => ?_)
      have hP : va_P D cL [(h, .inr (6, [.ref st, .int (nI fx), .ref fl, .ref fn, .ref li, .int (nI a6), .ref rc, .int (nI rn_), .int rb])), (fl, .inl (cI, 256, .inl gl9)), (fn, .inl (cI, 16, .inl (upd ffn fx (nI (a6 + 1))))), (li, .inl (cI, 32, .inl a7))] H := hP
      have hD : va_D A [(h, .inr (6, [.ref st, .int (nI fx), .ref fl, .ref fn, .ref li, .int (nI a6), .ref rc, .int (nI rn_), .int rb])), (fl, .inl (cI, 256, .inl gl9)), (fn, .inl (cI, 16, .inl (upd ffn fx (nI (a6 + 1))))), (li, .inl (cI, 32, .inl a7))] := hD
      refine lv_aload_n hx hb d_World_fix_132 rfl (lv_at hl 3 rfl) ?_
      refine lv_dup hx hb d_World_fix_133 rfl ?_
      refine va_get (D := D) (ci := 6) (v := .int (nI fx)) (C := "TaleMachine$World") (T := F_World) (N := 9) hx hb hts in_World hown hK hP 0 rfl rfl 1 (by decide) (hts _ k_62) (fun _ h9 => h9) rfl d_World_fix_134 ?_
      refine lv_iconst (v := 1) hx hb d_World_fix_137 (by decide) ?_
      refine lv_iadd hx hb d_World_fix_138 ?_
      refine lv_topi (fun z21 hz21 => ?_)
      obtain rfl : z21 = nI (fx + 1) := hz21.trans (nI_add fx 1)
      refine va_put (D := D) (ci := 6) (v := .int (nI (fx + 1))) (ty := .int) (C := "TaleMachine$World") (T := F_World) (N := 9) hx hb hts in_World t_World t_World_ok n_World hown hK hP hD hS 0 rfl rfl 1 (by decide) (hts _ k_62) (fun _ h9 => h9) rfl (by decide +kernel) rfl rfl (Nat.le_of_ble_eq_true rfl) d_World_fix_139 (fun H locs hP hD hS => ?_)
      have hP : va_P D cL [(h, .inr (6, [.ref st, .int (nI (fx + 1)), .ref fl, .ref fn, .ref li, .int (nI a6), .ref rc, .int (nI rn_), .int rb])), (fl, .inl (cI, 256, .inl gl9)), (fn, .inl (cI, 16, .inl (upd ffn fx (nI (a6 + 1))))), (li, .inl (cI, 32, .inl a7))] H := hP
      have hD : va_D A [(h, .inr (6, [.ref st, .int (nI (fx + 1)), .ref fl, .ref fn, .ref li, .int (nI a6), .ref rc, .int (nI rn_), .int rb])), (fl, .inl (cI, 256, .inl gl9)), (fn, .inl (cI, 16, .inl (upd ffn fx (nI (a6 + 1))))), (li, .inl (cI, 32, .inl a7))] := hD
      refine lv_aload_n hx hb d_World_fix_142 rfl (lv_at hl 3 rfl) ?_
      refine va_get (D := D) (ci := 6) (v := .int (nI (fx + 1))) (C := "TaleMachine$World") (T := F_World) (N := 9) hx hb hts in_World hown hK hP 0 rfl rfl 1 (by decide) (hts _ k_62) (fun _ h9 => h9) rfl d_World_fix_143 ?_
      refine lv_iconst (v := 1) hx hb d_World_fix_146 (by decide) ?_
      refine lv_isub hx hb d_World_fix_147 ?_
      refine lv_topi (fun z22 hz22 => ?_)
      obtain rfl : z22 = nI ((fx + 1) - 1) := hz22.trans (pk_sub (a := fx + 1) (b := 1) (by omega))
      exact end_i hx hb hr hlocks hS (u := (a6, a7, gl9, upd ffn fx (nI (a6 + 1)))) (r := (nI ((fx + 1) - 1))) (at_end (hP.sub (ws' := [(h, .inr (6, [.ref st, .int (nI (fx + 1)), .ref fl, .ref fn, .ref li, .int (nI a6), .ref rc, .int (nI rn_), .int rb])), (fl, .inl (cI, 256, .inl gl9)), (fn, .inl (cI, 16, .inl (upd ffn fx (nI (a6 + 1))))), (li, .inl (cI, 32, .inl a7))]) [0, 1, 2, 3] rfl) (hD.sub (ws' := [(h, .inr (6, [.ref st, .int (nI (fx + 1)), .ref fl, .ref fn, .ref li, .int (nI a6), .ref rc, .int (nI rn_), .int rb])), (fl, .inl (cI, 256, .inl gl9)), (fn, .inl (cI, 16, .inl (upd ffn fx (nI (a6 + 1))))), (li, .inl (cI, 32, .inl a7))]) [0, 1, 2, 3] (by decide) rfl)) (⟨by first | rfl | exact (congrArg nI (by omega)), hX.new hfx hGl (by have z9 := hIk11.2; rw [hkk11] at z9; exact z9), hGl, by have z9 := hIk11.1; rw [hkk11, ← hGn] at z9; have z8 := z9.row (by omega) (fun x hx => by have := hGA.mem (by omega) x hx; omega); rw [hGn] at z8; exact z8, pk_us, fun j hj => hIk11.1.2.2 j (Or.inl hj), fun i hi => pk_un (by omega)⟩) (Nat.le_of_ble_eq_true rfl) (Nat.le_of_ble_eq_true rfl) d_World_fix_148
    · have hc19N : ¬ a6 ≤ k11 := fun z9 => hc19 ((nI_leI (a := a6) (b := k11) (by omega) (by omega)).mpr z9)
      exact absurd hc19N (by omega)

set_option maxHeartbeats 4000000 in
set_option maxRecDepth 100000 in
theorem y_fix_3 (l : Launch) (D : va_G) (cI cZ cJ : ClassId) (h st fl fn li rc kd it pa : Nat) (fx le rn_ : Nat) (rb : Int32) (aa ba ca : Int32) (pa1 pa2 pa3 : Nat) (ffl ffn fli : Nat → Int32) (f_ : Nat → Int32) (sz : Nat) (hfx : fx < 16) (hp1 : pa1 < fx) (hp2 : pa2 < fx) (hp3 : pa3 < fx) (hX : FXI ffl ffn fx) (hrw : ∀ i, i < fx → f_ (29 * i) = 1 ∧ ∃ m, m ≤ i + 1 ∧ ffn i = nI m ∧ rowl ffl i m = (LNE f_ i).reverse) (hw : ∃ rk, WP f_ rk) : Met l y_World_fix (.code y_World_fix prog_8_method_8_code 8 (some .int) :: AW) ({ frames := 1, cells := 0, slots := 0, locals := 25 }) (va_Pc [.ref h, .int 3, .int (nI pa1), .int (nI pa2), .int (nI pa3)] (pre_ D [(h, .inr (6, [.ref st, .int (nI fx), .ref fl, .ref fn, .ref li, .int (nI le), .ref rc, .int (nI rn_), .int rb])), (fl, .inl (cI, 256, .inl ffl)), (fn, .inl (cI, 16, .inl ffn)), (li, .inl (cI, 32, .inl fli))] [(cI, .int), (cZ, .boolean), (cJ, .long)] sz)) (va_Qi (fun (r : Int32) (u : Nat × (Nat → Int32) × (Nat → Int32) × (Nat → Int32)) => r = nI fx ∧ (match u with | (le2, g, gl, gn) => FXI gl gn (fx + 1) ∧ le2 ≤ fx ∧ rowl gl fx (le2 + 1) = (EX (EX (EX ([] : List Nat) (LNE f_ pa3)) (LNE f_ pa2)) (LNE f_ pa1) ++ [fx]).reverse ∧ gn fx = nI (le2 + 1) ∧ (∀ j, j < fx * 16 → gl j = ffl j) ∧ ∀ i, i < fx → gn i = ffn i)) (fun u t => match u with | (le2, g, gl, gn) => post_ D (va_A [(h, .inr (6, [.ref st, .int (nI fx), .ref fl, .ref fn, .ref li, .int (nI le), .ref rc, .int (nI rn_), .int rb])), (fl, .inl (cI, 256, .inl ffl)), (fn, .inl (cI, 16, .inl ffn)), (li, .inl (cI, 32, .inl fli))] sz) [(h, .inr (6, [.ref st, .int (nI (fx + 1)), .ref fl, .ref fn, .ref li, .int (nI le2), .ref rc, .int (nI rn_), .int rb])), (fl, .inl (cI, 256, .inl gl)), (fn, .inl (cI, 16, .inl gn)), (li, .inl (cI, 32, .inl g))] t) (va_A [(h, .inr (6, [.ref st, .int (nI fx), .ref fl, .ref fn, .ref li, .int (nI le), .ref rc, .int (nI rn_), .int rb])), (fl, .inl (cI, 256, .inl ffl)), (fn, .inl (cI, 16, .inl ffn)), (li, .inl (cI, 32, .inl fli))] sz)) 0 0 (va_A [(h, .inr (6, [.ref st, .int (nI fx), .ref fl, .ref fn, .ref li, .int (nI le), .ref rc, .int (nI rn_), .int rb])), (fl, .inl (cI, 256, .inl ffl)), (fn, .inl (cI, 16, .inl ffn)), (li, .inl (cI, 32, .inl fli))] sz) := by
  refine Met.ofW (cc := prog_8_method_8_code) (maxL := 8) (ret := (some .int)) (by decide) rfl ?_
  intro p e s m args below meth c s₁ B hml hv
  obtain ⟨rfl, rfl, hP, hK, hD0, hT⟩ := hv
  have hx := B.exec
  have hb := B.bytes
  have hr := B.returns
  have hts0 := atoms_spec (ws := .code y_World_fix prog_8_method_8_code 8 (some .int) :: AW) B.pre
  have hts : ∀ w ∈ AW, w.before [.ref h, .int 3, .int (nI pa1), .int (nI pa2), .int (nI pa3)].toArray s = true := fun w h => hts0 w (List.mem_cons_of_mem _ h)
  have hown : s.vm.findClass "TaleMachine$World" = some m.cls := findClass_of_methodNamed B.named
  have hlocks := B.notSynchronized
  have hD := hD0.self (sz := s.heap.size)
  generalize hAe : va_A [(h, .inr (6, [.ref st, .int (nI fx), .ref fl, .ref fn, .ref li, .int (nI le), .ref rc, .int (nI rn_), .int rb])), (fl, .inl (cI, 256, .inl ffl)), (fn, .inl (cI, 16, .inl ffn)), (li, .inl (cI, 32, .inl fli))] s.heap.size = A at hD ⊢
  have hA : ∀ q : Nat, s.heap.size ≤ q → A q := fun q h => by rw [← hAe]; exact Or.inr h
  have hS : va_S A s.heap s.heap [] := va_S.rf
  have hl := lv_entry ([.ref h, .int 3, .int (nI pa1), .int (nI pa2), .int (nI pa3)]) (n := 8) (Nat.le_of_ble_eq_true rfl)
  rw [lg_entry_eq]
  generalize (lg_sl ([.ref h, .int 3, .int (nI pa1), .int (nI pa2), .int (nI pa3)]) ++ List.replicate (8 - (lg_sl ([.ref h, .int 3, .int (nI pa1), .int (nI pa2), .int (nI pa3)])).length) Slot.unset).toArray = ls at hl ⊢
  have hl : lv_has ls 8 [(0, .ref h), (1, .int 3), (2, .int (nI pa1)), (3, .int (nI pa2)), (4, .int (nI pa3))] := hl
  refine lv_aload_n hx hb d_World_fix_0 rfl (lv_at hl 0 rfl) ?_
  refine lv_iconst (v := 0) hx hb d_World_fix_1 (by decide) ?_
  refine va_put (D := D) (ci := 6) (v := .int 0) (ty := .int) (C := "TaleMachine$World") (T := F_World) (N := 9) hx hb hts in_World t_World t_World_ok n_World hown hK hP hD hS 0 rfl rfl 5 (by decide) (hts _ k_67) (fun _ h9 => h9) rfl (by decide +kernel) rfl rfl (Nat.le_of_ble_eq_true rfl) d_World_fix_2 (fun H locs hP hD hS => ?_)
  have hP : va_P D cL [(h, .inr (6, [.ref st, .int (nI fx), .ref fl, .ref fn, .ref li, .int 0, .ref rc, .int (nI rn_), .int rb])), (fl, .inl (cI, 256, .inl ffl)), (fn, .inl (cI, 16, .inl ffn)), (li, .inl (cI, 32, .inl fli))] H := hP
  have hD : va_D A [(h, .inr (6, [.ref st, .int (nI fx), .ref fl, .ref fn, .ref li, .int 0, .ref rc, .int (nI rn_), .int rb])), (fl, .inl (cI, 256, .inl ffl)), (fn, .inl (cI, 16, .inl ffn)), (li, .inl (cI, 32, .inl fli))] := hD
  refine lv_iconst (v := 0) hx hb d_World_fix_5 (by decide) ?_
  refine lv_istore (lv' := [(5, .int 0), (0, .ref h), (1, .int 3), (2, .int (nI pa1)), (3, .int (nI pa2)), (4, .int (nI pa3))]) hx hb d_World_fix_6 hl (by decide) rfl (fun ls hl => ?_)
  refine lv_iload_n hx hb d_World_fix_8 rfl (lv_at hl 2 rfl) ?_
  refine lv_iconst (v := 1) hx hb d_World_fix_9 (by decide) ?_
  refine lv_isub hx hb d_World_fix_10 ?_
  refine lv_topi (fun z1 hz1 => ?_)
  obtain rfl : z1 = 2 := hz1.trans (by decide)
  refine lv_istore (lv' := [(6, .int 2), (5, .int 0), (0, .ref h), (1, .int 3), (2, .int (nI pa1)), (3, .int (nI pa2)), (4, .int (nI pa3))]) hx hb d_World_fix_11 hl (by decide) rfl (fun ls hl => ?_)
  refine lv_iload hx hb d_World_fix_13 (lv_at hl 0 rfl) ?_
  refine lv_if_lt hx hb d_World_fix_15 (tgt := 53) (by decide) (fun hz => absurd hz (by decide)) (fun _ => ?_)
  refine lv_aload_n hx hb d_World_fix_18 rfl (lv_at hl 2 rfl) ?_
  refine lv_iload hx hb d_World_fix_19 (lv_at hl 0 rfl) ?_
  refine lv_if_ne hx hb d_World_fix_21 (tgt := 28) (by decide) (fun _ => ?_) (fun hz => absurd hz (by decide))
  refine lv_iload hx hb d_World_fix_28 (lv_at hl 0 rfl) ?_
  refine lv_iconst (v := 1) hx hb d_World_fix_30 (by decide) ?_
  refine lv_icmp_ne hx hb d_World_fix_31 (tgt := 38) (by decide) (fun _ => ?_) (fun hz => absurd hz (by decide))
  refine lv_iload hx hb d_World_fix_38 (lv_at hl 6 rfl) ?_
  refine lv_iload hx hb d_World_fix_40 (lv_at hl 1 rfl) ?_
  refine mv_i (va_runV (C := "TaleMachine$World") (As := [.int (nI pa3), .int 0]) (rest := []) ⟨hx, hb, hml, hown, hts⟩ (y_gather l D cI cZ cJ h st fl fn li rc 0 0 0 fx 0 rn_ rb pa3 0 ffl ffn fli f_ (([] : List Nat)) _ (by omega) (by first | assumption | omega | decide) (by first | assumption | omega | decide) (by first | assumption | omega | decide) (by first | assumption | omega | decide) GAX.zero) (cwV 2 hts (gInV k_544 k_545 k_901 k_3 k_546) rfl rfl rfl (by decide +kernel) ⟨Nat.le_of_ble_eq_true rfl, Nat.le_of_ble_eq_true rfl⟩) (pre_V (va_recv hK hP (q := ("TaleMachine$World", F_World, 9)) rfl (q0 := 0) rfl) (hP.sub [0, 1, 2, 3] rfl) (hK.sub [0, 1, 2] rfl) (hD.sub [0, 1, 2, 3] (by decide) rfl) hT) rfl rfl hl.1 rfl (lv_room (Nat.le_of_ble_eq_true rfl)) d_World_fix_42 ⟨Nat.le_of_ble_eq_true rfl, Nat.le_of_ble_eq_true rfl⟩) hP hD hS hA [0, 1, 2, 3] [] rfl rfl (by decide) (by decide) (wr := []) (wn := fun u => match u with | (le2, g) => [(h, .inr (6, [.ref st, .int (nI fx), .ref fl, .ref fn, .ref li, .int (nI le2), .ref rc, .int (nI rn_), .int rb])), (fl, .inl (cI, 256, .inl ffl)), (fn, .inl (cI, 16, .inl ffn)), (li, .inl (cI, 32, .inl g))]) (fun _ _ h9 => h9) (fun r4 u H locs hp5 hP hD hS => ?_)
  obtain ⟨a2, a3⟩ := u
  dsimp only at hp5
  have hP : va_P D cL [(h, .inr (6, [.ref st, .int (nI fx), .ref fl, .ref fn, .ref li, .int (nI a2), .ref rc, .int (nI rn_), .int rb])), (fl, .inl (cI, 256, .inl ffl)), (fn, .inl (cI, 16, .inl ffn)), (li, .inl (cI, 32, .inl a3))] H := hP
  have hD : va_D A [(h, .inr (6, [.ref st, .int (nI fx), .ref fl, .ref fn, .ref li, .int (nI a2), .ref rc, .int (nI rn_), .int rb])), (fl, .inl (cI, 256, .inl ffl)), (fn, .inl (cI, 16, .inl ffn)), (li, .inl (cI, 32, .inl a3))] := hD
  refine lv_istore (lv' := [(5, .int r4), (6, .int 2), (0, .ref h), (1, .int 3), (2, .int (nI pa1)), (3, .int (nI pa2)), (4, .int (nI pa3))]) hx hb d_World_fix_45 hl (by decide) rfl (fun ls hl => ?_)
  refine lv_iinc (v := 1) (lv' := [(6, .int 1), (5, .int r4), (0, .ref h), (1, .int 3), (2, .int (nI pa1)), (3, .int (nI pa2)), (4, .int (nI pa3))]) hx hb d_World_fix_47 hl (k := 1) rfl (by decide) (by decide) rfl (fun ls hl => ?_)
  refine lv_goto hx hb d_World_fix_50 (tgt := 13) (by decide) ?_
  refine lv_iload hx hb d_World_fix_13 (lv_at hl 0 rfl) ?_
  refine lv_if_lt hx hb d_World_fix_15 (tgt := 53) (by decide) (fun hz => absurd hz (by decide)) (fun _ => ?_)
  refine lv_aload_n hx hb d_World_fix_18 rfl (lv_at hl 2 rfl) ?_
  refine lv_iload hx hb d_World_fix_19 (lv_at hl 0 rfl) ?_
  refine lv_if_ne hx hb d_World_fix_21 (tgt := 28) (by decide) (fun _ => ?_) (fun hz => absurd hz (by decide))
  refine lv_iload hx hb d_World_fix_28 (lv_at hl 0 rfl) ?_
  refine lv_iconst (v := 1) hx hb d_World_fix_30 (by decide) ?_
  refine lv_icmp_ne hx hb d_World_fix_31 (tgt := 38) (by decide) (fun hz => absurd (by decide) hz) (fun _ => ?_)
  refine lv_iload_n hx hb d_World_fix_34 rfl (lv_at hl 5 rfl) ?_
  refine lv_goto hx hb d_World_fix_35 (tgt := 40) (by decide) ?_
  refine lv_iload hx hb d_World_fix_40 (lv_at hl 1 rfl) ?_
  refine mv_i (va_runV (C := "TaleMachine$World") (As := [.int (nI pa2), .int r4]) (rest := []) ⟨hx, hb, hml, hown, hts⟩ (y_gather l D cI cZ cJ h st fl fn li rc 0 0 0 fx a2 rn_ rb pa2 r4 ffl ffn a3 f_ (EX ([] : List Nat) (LNE f_ pa3)) _ (by omega) (by first | assumption | omega | decide) (by first | assumption | omega | decide) (by first | assumption | omega | decide) (by first | assumption | omega | decide) hp5) (cwV 2 hts (gInV k_544 k_545 k_901 k_3 k_546) rfl rfl rfl (by decide +kernel) ⟨Nat.le_of_ble_eq_true rfl, Nat.le_of_ble_eq_true rfl⟩) (pre_V (va_recv hK hP (q := ("TaleMachine$World", F_World, 9)) rfl (q0 := 0) rfl) (hP.sub [0, 1, 2, 3] rfl) (hK.sub [0, 1, 2] rfl) (hD.sub [0, 1, 2, 3] (by decide) rfl) hT) rfl rfl hl.1 rfl (lv_room (Nat.le_of_ble_eq_true rfl)) d_World_fix_42 ⟨Nat.le_of_ble_eq_true rfl, Nat.le_of_ble_eq_true rfl⟩) hP hD hS hA [0, 1, 2, 3] [] rfl rfl (by decide) (by decide) (wr := []) (wn := fun u => match u with | (le2, g) => [(h, .inr (6, [.ref st, .int (nI fx), .ref fl, .ref fn, .ref li, .int (nI le2), .ref rc, .int (nI rn_), .int rb])), (fl, .inl (cI, 256, .inl ffl)), (fn, .inl (cI, 16, .inl ffn)), (li, .inl (cI, 32, .inl g))]) (fun _ _ h9 => h9) (fun r8 u H locs hp9 hP hD hS => ?_)
  obtain ⟨a6, a7⟩ := u
  dsimp only at hp9
  have hP : va_P D cL [(h, .inr (6, [.ref st, .int (nI fx), .ref fl, .ref fn, .ref li, .int (nI a6), .ref rc, .int (nI rn_), .int rb])), (fl, .inl (cI, 256, .inl ffl)), (fn, .inl (cI, 16, .inl ffn)), (li, .inl (cI, 32, .inl a7))] H := hP
  have hD : va_D A [(h, .inr (6, [.ref st, .int (nI fx), .ref fl, .ref fn, .ref li, .int (nI a6), .ref rc, .int (nI rn_), .int rb])), (fl, .inl (cI, 256, .inl ffl)), (fn, .inl (cI, 16, .inl ffn)), (li, .inl (cI, 32, .inl a7))] := hD
  refine lv_istore (lv' := [(5, .int r8), (6, .int 1), (0, .ref h), (1, .int 3), (2, .int (nI pa1)), (3, .int (nI pa2)), (4, .int (nI pa3))]) hx hb d_World_fix_45 hl (by decide) rfl (fun ls hl => ?_)
  refine lv_iinc (v := 0) (lv' := [(6, .int 0), (5, .int r8), (0, .ref h), (1, .int 3), (2, .int (nI pa1)), (3, .int (nI pa2)), (4, .int (nI pa3))]) hx hb d_World_fix_47 hl (k := 1) rfl (by decide) (by decide) rfl (fun ls hl => ?_)
  refine lv_goto hx hb d_World_fix_50 (tgt := 13) (by decide) ?_
  refine lv_iload hx hb d_World_fix_13 (lv_at hl 0 rfl) ?_
  refine lv_if_lt hx hb d_World_fix_15 (tgt := 53) (by decide) (fun hz => absurd hz (by decide)) (fun _ => ?_)
  refine lv_aload_n hx hb d_World_fix_18 rfl (lv_at hl 2 rfl) ?_
  refine lv_iload hx hb d_World_fix_19 (lv_at hl 0 rfl) ?_
  refine lv_if_ne hx hb d_World_fix_21 (tgt := 28) (by decide) (fun hz => absurd (by decide) hz) (fun _ => ?_)
  refine lv_iload_n hx hb d_World_fix_24 rfl (lv_at hl 4 rfl) ?_
  refine lv_goto hx hb d_World_fix_25 (tgt := 40) (by decide) ?_
  refine lv_iload hx hb d_World_fix_40 (lv_at hl 1 rfl) ?_
  refine mv_i (va_runV (C := "TaleMachine$World") (As := [.int (nI pa1), .int r8]) (rest := []) ⟨hx, hb, hml, hown, hts⟩ (y_gather l D cI cZ cJ h st fl fn li rc 0 0 0 fx a6 rn_ rb pa1 r8 ffl ffn a7 f_ (EX (EX ([] : List Nat) (LNE f_ pa3)) (LNE f_ pa2)) _ (by omega) (by first | assumption | omega | decide) (by first | assumption | omega | decide) (by first | assumption | omega | decide) (by first | assumption | omega | decide) hp9) (cwV 2 hts (gInV k_544 k_545 k_901 k_3 k_546) rfl rfl rfl (by decide +kernel) ⟨Nat.le_of_ble_eq_true rfl, Nat.le_of_ble_eq_true rfl⟩) (pre_V (va_recv hK hP (q := ("TaleMachine$World", F_World, 9)) rfl (q0 := 0) rfl) (hP.sub [0, 1, 2, 3] rfl) (hK.sub [0, 1, 2] rfl) (hD.sub [0, 1, 2, 3] (by decide) rfl) hT) rfl rfl hl.1 rfl (lv_room (Nat.le_of_ble_eq_true rfl)) d_World_fix_42 ⟨Nat.le_of_ble_eq_true rfl, Nat.le_of_ble_eq_true rfl⟩) hP hD hS hA [0, 1, 2, 3] [] rfl rfl (by decide) (by decide) (wr := []) (wn := fun u => match u with | (le2, g) => [(h, .inr (6, [.ref st, .int (nI fx), .ref fl, .ref fn, .ref li, .int (nI le2), .ref rc, .int (nI rn_), .int rb])), (fl, .inl (cI, 256, .inl ffl)), (fn, .inl (cI, 16, .inl ffn)), (li, .inl (cI, 32, .inl g))]) (fun _ _ h9 => h9) (fun r12 u H locs hp13 hP hD hS => ?_)
  obtain ⟨a10, a11⟩ := u
  dsimp only at hp13
  have hP : va_P D cL [(h, .inr (6, [.ref st, .int (nI fx), .ref fl, .ref fn, .ref li, .int (nI a10), .ref rc, .int (nI rn_), .int rb])), (fl, .inl (cI, 256, .inl ffl)), (fn, .inl (cI, 16, .inl ffn)), (li, .inl (cI, 32, .inl a11))] H := hP
  have hD : va_D A [(h, .inr (6, [.ref st, .int (nI fx), .ref fl, .ref fn, .ref li, .int (nI a10), .ref rc, .int (nI rn_), .int rb])), (fl, .inl (cI, 256, .inl ffl)), (fn, .inl (cI, 16, .inl ffn)), (li, .inl (cI, 32, .inl a11))] := hD
  refine lv_istore (lv' := [(5, .int r12), (6, .int 0), (0, .ref h), (1, .int 3), (2, .int (nI pa1)), (3, .int (nI pa2)), (4, .int (nI pa3))]) hx hb d_World_fix_45 hl (by decide) rfl (fun ls hl => ?_)
  refine lv_iinc (v := (-1)) (lv' := [(6, .int (-1)), (5, .int r12), (0, .ref h), (1, .int 3), (2, .int (nI pa1)), (3, .int (nI pa2)), (4, .int (nI pa3))]) hx hb d_World_fix_47 hl (k := 1) rfl (by decide) (by decide) rfl (fun ls hl => ?_)
  refine lv_goto hx hb d_World_fix_50 (tgt := 13) (by decide) ?_
  refine lv_iload hx hb d_World_fix_13 (lv_at hl 0 rfl) ?_
  refine lv_if_lt hx hb d_World_fix_15 (tgt := 53) (by decide) (fun _ => ?_) (fun hz => absurd (by decide) hz)
  have hGA := hp13
  have hGl := hGA.1.le
  have hGn := hGA.len
  refine lv_aload_n hx hb d_World_fix_53 rfl (lv_at hl 2 rfl) ?_
  refine va_get (D := D) (ci := 6) (v := .int (nI fx)) (C := "TaleMachine$World") (T := F_World) (N := 9) hx hb hts in_World hown hK hP 0 rfl rfl 1 (by decide) (hts _ k_62) (fun _ h9 => h9) rfl d_World_fix_54 ?_
  refine lv_bipush (v := 16) hx hb d_World_fix_57 (by decide) ?_
  refine lv_imul hx hb d_World_fix_59 ?_
  refine lv_topi (fun z14 hz14 => ?_)
  obtain rfl : z14 = nI (fx * 16) := hz14.trans (pk_mul fx 16)
  refine lv_istore (lv' := [(6, .int (nI (fx * 16))), (5, .int r12), (0, .ref h), (1, .int 3), (2, .int (nI pa1)), (3, .int (nI pa2)), (4, .int (nI pa3))]) hx hb d_World_fix_60 hl (by decide) rfl (fun ls hl => ?_)
  refine lv_aload_n hx hb d_World_fix_62 rfl (lv_at hl 2 rfl) ?_
  refine va_get (D := D) (ci := 6) (v := .ref fl) (C := "TaleMachine$World") (T := F_World) (N := 9) hx hb hts in_World hown hK hP 0 rfl rfl 2 (by decide) (hts _ k_64) (fun _ h9 => h9) rfl d_World_fix_63 ?_
  refine lv_iload hx hb d_World_fix_66 (lv_at hl 0 rfl) ?_
  refine lv_aload_n hx hb d_World_fix_68 rfl (lv_at hl 2 rfl) ?_
  refine va_get (D := D) (ci := 6) (v := .int (nI fx)) (C := "TaleMachine$World") (T := F_World) (N := 9) hx hb hts in_World hown hK hP 0 rfl rfl 1 (by decide) (hts _ k_62) (fun _ h9 => h9) rfl d_World_fix_69 ?_
  refine ia_st hx hb hK hP hD hS 1 0 rfl rfl (k := fx * 16) (x := (nI fx)) (by omega) (by first | decide | assumption) d_World_fix_72 (fun H locs hP hD hS => ?_)
  have hP : va_P D cL [(h, .inr (6, [.ref st, .int (nI fx), .ref fl, .ref fn, .ref li, .int (nI a10), .ref rc, .int (nI rn_), .int rb])), (fl, .inl (cI, 256, .inl (upd ffl (fx * 16) (nI fx)))), (fn, .inl (cI, 16, .inl ffn)), (li, .inl (cI, 32, .inl a11))] H := hP
  have hD : va_D A [(h, .inr (6, [.ref st, .int (nI fx), .ref fl, .ref fn, .ref li, .int (nI a10), .ref rc, .int (nI rn_), .int rb])), (fl, .inl (cI, 256, .inl (upd ffl (fx * 16) (nI fx)))), (fn, .inl (cI, 16, .inl ffn)), (li, .inl (cI, 32, .inl a11))] := hD
  refine lv_iconst (v := 0) hx hb d_World_fix_73 (by decide) ?_
  refine lv_istore (lv' := [(7, .int 0), (6, .int (nI (fx * 16))), (5, .int r12), (0, .ref h), (1, .int 3), (2, .int (nI pa1)), (3, .int (nI pa2)), (4, .int (nI pa3))]) hx hb d_World_fix_74 hl (by decide) rfl (fun ls hl => ?_)
  refine lp_W (I := fun k15 H locs ls => ∃ gl9 : Nat → Int32, (FXR ffl gl9 fx k15 (EX (EX (EX ([] : List Nat) (LNE f_ pa3)) (LNE f_ pa2)) (LNE f_ pa1)) ∧ FXP ffl gl9 fx k15) ∧ va_P D cL [(h, .inr (6, [.ref st, .int (nI fx), .ref fl, .ref fn, .ref li, .int (nI a10), .ref rc, .int (nI rn_), .int rb])), (fl, .inl (cI, 256, .inl gl9)), (fn, .inl (cI, 16, .inl ffn)), (li, .inl (cI, 32, .inl a11))] H ∧ va_D A [(h, .inr (6, [.ref st, .int (nI fx), .ref fl, .ref fn, .ref li, .int (nI a10), .ref rc, .int (nI rn_), .int rb])), (fl, .inl (cI, 256, .inl gl9)), (fn, .inl (cI, 16, .inl ffn)), (li, .inl (cI, 32, .inl a11))] ∧ va_S A s.heap H locs ∧ lv_has ls 8 [(7, .int (nI k15)), (6, .int (nI (fx * 16))), (5, .int r12), (0, .ref h), (1, .int 3), (2, .int (nI pa1)), (3, .int (nI pa2)), (4, .int (nI pa3))]) (a := 0) (b := a10) (by omega) ?_ _ _ _ ⟨_, ⟨FXR.init, FXP.init⟩, hP, hD, hS, lv_sub hl [0, 1, 2, 3, 4, 5, 6, 7] rfl⟩
  intro k15 H locs ls hkak15 hkbk15 hI ih16
  obtain ⟨gl9, hIk15, hP, hD, hS, hl⟩ := hI
  rcases Nat.lt_or_ge k15 a10 with hkk15 | hkk15
  · refine lv_iload hx hb d_World_fix_76 (lv_at hl 0 rfl) ?_
    refine lv_aload_n hx hb d_World_fix_78 rfl (lv_at hl 3 rfl) ?_
    refine va_get (D := D) (ci := 6) (v := .int (nI a10)) (C := "TaleMachine$World") (T := F_World) (N := 9) hx hb hts in_World hown hK hP 0 rfl rfl 5 (by decide) (hts _ k_67) (fun _ h9 => h9) rfl d_World_fix_79 ?_
    refine lv_icmp_ge hx hb d_World_fix_82 (tgt := 117) (by decide) (fun hc17 => ?_) (fun hc17 => ?_)
    · have hc17N : a10 ≤ k15 := (nI_leI (a := a10) (b := k15) (by omega) (by omega)).mp hc17
      exact absurd hc17N (by omega)
    · have hc17N : ¬ a10 ≤ k15 := fun z9 => hc17 ((nI_leI (a := a10) (b := k15) (by omega) (by omega)).mpr z9)
      refine lv_aload_n hx hb d_World_fix_85 rfl (lv_at hl 3 rfl) ?_
      refine va_get (D := D) (ci := 6) (v := .ref fl) (C := "TaleMachine$World") (T := F_World) (N := 9) hx hb hts in_World hown hK hP 0 rfl rfl 2 (by decide) (hts _ k_64) (fun _ h9 => h9) rfl d_World_fix_86 ?_
      refine lv_iload hx hb d_World_fix_89 (lv_at hl 1 rfl) ?_
      refine lv_iconst (v := 1) hx hb d_World_fix_91 (by decide) ?_
      refine lv_iadd hx hb d_World_fix_92 ?_
      refine lv_topi (fun z18 hz18 => ?_)
      obtain rfl : z18 = nI ((fx * 16) + 1) := hz18.trans (nI_add (fx * 16) 1)
      refine lv_iload hx hb d_World_fix_93 (lv_at hl 0 rfl) ?_
      refine lv_iadd hx hb d_World_fix_95 ?_
      refine lv_topi (fun z19 hz19 => ?_)
      obtain rfl : z19 = nI (((fx * 16) + 1) + k15) := hz19.trans (nI_add ((fx * 16) + 1) k15)
      refine lv_aload_n hx hb d_World_fix_96 rfl (lv_at hl 3 rfl) ?_
      refine va_get (D := D) (ci := 6) (v := .ref li) (C := "TaleMachine$World") (T := F_World) (N := 9) hx hb hts in_World hown hK hP 0 rfl rfl 4 (by decide) (hts _ k_66) (fun _ h9 => h9) rfl d_World_fix_97 ?_
      refine lv_aload_n hx hb d_World_fix_100 rfl (lv_at hl 3 rfl) ?_
      refine va_get (D := D) (ci := 6) (v := .int (nI a10)) (C := "TaleMachine$World") (T := F_World) (N := 9) hx hb hts in_World hown hK hP 0 rfl rfl 5 (by decide) (hts _ k_67) (fun _ h9 => h9) rfl d_World_fix_101 ?_
      refine lv_iconst (v := 1) hx hb d_World_fix_104 (by decide) ?_
      refine lv_isub hx hb d_World_fix_105 ?_
      refine lv_topi (fun z20 hz20 => ?_)
      obtain rfl : z20 = nI (a10 - 1) := hz20.trans (pk_sub (a := a10) (b := 1) (by omega))
      refine lv_iload hx hb d_World_fix_106 (lv_at hl 0 rfl) ?_
      refine lv_isub hx hb d_World_fix_108 ?_
      refine lv_topi (fun z21 hz21 => ?_)
      obtain rfl : z21 = nI ((a10 - 1) - k15) := hz21.trans (pk_sub (a := a10 - 1) (b := k15) (by omega))
      refine ia_ld hx hb hK hP 3 0 rfl rfl (k := (a10 - 1) - k15) (by omega) (by first | decide | assumption) d_World_fix_109 ?_
      obtain ⟨q9, hq9, hqe9⟩ := hGA.1.2.1 ((a10 - 1) - k15) (by omega)
      obtain ⟨hl9, hqi9⟩ := hGA.at (k := ((a10 - 1) - k15)) (by omega) hqe9 (by omega)
      refine lv_topi (fun z22 hz22 => ?_)
      obtain rfl : z22 = (nI q9) := hz22.trans (hqe9)
      refine ia_st hx hb hK hP hD hS 1 0 rfl rfl (k := ((fx * 16) + 1) + k15) (x := (nI q9)) (by omega) (by first | decide | assumption) d_World_fix_110 (fun H locs hP hD hS => ?_)
      have hP : va_P D cL [(h, .inr (6, [.ref st, .int (nI fx), .ref fl, .ref fn, .ref li, .int (nI a10), .ref rc, .int (nI rn_), .int rb])), (fl, .inl (cI, 256, .inl (upd gl9 (((fx * 16) + 1) + k15) (nI q9)))), (fn, .inl (cI, 16, .inl ffn)), (li, .inl (cI, 32, .inl a11))] H := hP
      have hD : va_D A [(h, .inr (6, [.ref st, .int (nI fx), .ref fl, .ref fn, .ref li, .int (nI a10), .ref rc, .int (nI rn_), .int rb])), (fl, .inl (cI, 256, .inl (upd gl9 (((fx * 16) + 1) + k15) (nI q9)))), (fn, .inl (cI, 16, .inl ffn)), (li, .inl (cI, 32, .inl a11))] := hD
      refine lv_iinc (v := (nI (k15 + 1))) (lv' := [(7, .int (nI (k15 + 1))), (6, .int (nI (fx * 16))), (5, .int r12), (0, .ref h), (1, .int 3), (2, .int (nI pa1)), (3, .int (nI pa2)), (4, .int (nI pa3))]) hx hb d_World_fix_111 hl (k := 0) rfl (nI_1 k15) (by decide) rfl (fun ls hl => ?_)
      refine lv_goto hx hb d_World_fix_114 (tgt := 76) (by decide) ?_
      exact ih16 hkk15 _ _ _ ⟨_, ⟨hIk15.1.step2 hGn hl9 hqi9, hIk15.2.step hq9⟩, hP, hD, hS, lv_sub hl [0, 1, 2, 3, 4, 5, 6, 7] rfl⟩
  · have hkk15 : k15 = a10 := by omega
    refine lv_iload hx hb d_World_fix_76 (lv_at hl 0 rfl) ?_
    refine lv_aload_n hx hb d_World_fix_78 rfl (lv_at hl 3 rfl) ?_
    refine va_get (D := D) (ci := 6) (v := .int (nI a10)) (C := "TaleMachine$World") (T := F_World) (N := 9) hx hb hts in_World hown hK hP 0 rfl rfl 5 (by decide) (hts _ k_67) (fun _ h9 => h9) rfl d_World_fix_79 ?_
    refine lv_icmp_ge hx hb d_World_fix_82 (tgt := 117) (by decide) (fun hc23 => ?_) (fun hc23 => ?_)
    · have hc23N : a10 ≤ k15 := (nI_leI (a := a10) (b := k15) (by omega) (by omega)).mp hc23
      refine lv_aload_n hx hb d_World_fix_117 rfl (lv_at hl 3 rfl) ?_
      refine va_get (D := D) (ci := 6) (v := .ref fn) (C := "TaleMachine$World") (T := F_World) (N := 9) hx hb hts in_World hown hK hP 0 rfl rfl 3 (by decide) (hts _ k_65) (fun _ h9 => h9) rfl d_World_fix_118 ?_
      refine lv_aload_n hx hb d_World_fix_121 rfl (lv_at hl 3 rfl) ?_
      refine va_get (D := D) (ci := 6) (v := .int (nI fx)) (C := "TaleMachine$World") (T := F_World) (N := 9) hx hb hts in_World hown hK hP 0 rfl rfl 1 (by decide) (hts _ k_62) (fun _ h9 => h9) rfl d_World_fix_122 ?_
      refine lv_aload_n hx hb d_World_fix_125 rfl (lv_at hl 3 rfl) ?_
      refine va_get (D := D) (ci := 6) (v := .int (nI a10)) (C := "TaleMachine$World") (T := F_World) (N := 9) hx hb hts in_World hown hK hP 0 rfl rfl 5 (by decide) (hts _ k_67) (fun _ h9 => h9) rfl d_World_fix_126 ?_
      refine lv_iconst (v := 1) hx hb d_World_fix_129 (by decide) ?_
      refine lv_iadd hx hb d_World_fix_130 ?_
      refine lv_topi (fun z24 hz24 => ?_)
      obtain rfl : z24 = nI (a10 + 1) := hz24.trans (nI_add a10 1)
      refine ia_st hx hb hK hP hD hS 2 0 rfl rfl (k := fx) (x := (nI (a10 + 1))) (by omega) (by first | decide | assumption) d_World_fix_131 (fun H locs hP hD hS => ?_)
      have hP : va_P D cL [(h, .inr (6, [.ref st, .int (nI fx), .ref fl, .ref fn, .ref li, .int (nI a10), .ref rc, .int (nI rn_), .int rb])), (fl, .inl (cI, 256, .inl gl9)), (fn, .inl (cI, 16, .inl (upd ffn fx (nI (a10 + 1))))), (li, .inl (cI, 32, .inl a11))] H := hP
      have hD : va_D A [(h, .inr (6, [.ref st, .int (nI fx), .ref fl, .ref fn, .ref li, .int (nI a10), .ref rc, .int (nI rn_), .int rb])), (fl, .inl (cI, 256, .inl gl9)), (fn, .inl (cI, 16, .inl (upd ffn fx (nI (a10 + 1))))), (li, .inl (cI, 32, .inl a11))] := hD
      refine lv_aload_n hx hb d_World_fix_132 rfl (lv_at hl 3 rfl) ?_
      refine lv_dup hx hb d_World_fix_133 rfl ?_
      refine va_get (D := D) (ci := 6) (v := .int (nI fx)) (C := "TaleMachine$World") (T := F_World) (N := 9) hx hb hts in_World hown hK hP 0 rfl rfl 1 (by decide) (hts _ k_62) (fun _ h9 => h9) rfl d_World_fix_134 ?_
      refine lv_iconst (v := 1) hx hb d_World_fix_137 (by decide) ?_
      refine lv_iadd hx hb d_World_fix_138 ?_
      refine lv_topi (fun z25 hz25 => ?_)
      obtain rfl : z25 = nI (fx + 1) := hz25.trans (nI_add fx 1)
      refine va_put (D := D) (ci := 6) (v := .int (nI (fx + 1))) (ty := .int) (C := "TaleMachine$World") (T := F_World) (N := 9) hx hb hts in_World t_World t_World_ok n_World hown hK hP hD hS 0 rfl rfl 1 (by decide) (hts _ k_62) (fun _ h9 => h9) rfl (by decide +kernel) rfl rfl (Nat.le_of_ble_eq_true rfl) d_World_fix_139 (fun H locs hP hD hS => ?_)
      have hP : va_P D cL [(h, .inr (6, [.ref st, .int (nI (fx + 1)), .ref fl, .ref fn, .ref li, .int (nI a10), .ref rc, .int (nI rn_), .int rb])), (fl, .inl (cI, 256, .inl gl9)), (fn, .inl (cI, 16, .inl (upd ffn fx (nI (a10 + 1))))), (li, .inl (cI, 32, .inl a11))] H := hP
      have hD : va_D A [(h, .inr (6, [.ref st, .int (nI (fx + 1)), .ref fl, .ref fn, .ref li, .int (nI a10), .ref rc, .int (nI rn_), .int rb])), (fl, .inl (cI, 256, .inl gl9)), (fn, .inl (cI, 16, .inl (upd ffn fx (nI (a10 + 1))))), (li, .inl (cI, 32, .inl a11))] := hD
      refine lv_aload_n hx hb d_World_fix_142 rfl (lv_at hl 3 rfl) ?_
      refine va_get (D := D) (ci := 6) (v := .int (nI (fx + 1))) (C := "TaleMachine$World") (T := F_World) (N := 9) hx hb hts in_World hown hK hP 0 rfl rfl 1 (by decide) (hts _ k_62) (fun _ h9 => h9) rfl d_World_fix_143 ?_
      refine lv_iconst (v := 1) hx hb d_World_fix_146 (by decide) ?_
      refine lv_isub hx hb d_World_fix_147 ?_
      refine lv_topi (fun z26 hz26 => ?_)
      obtain rfl : z26 = nI ((fx + 1) - 1) := hz26.trans (pk_sub (a := fx + 1) (b := 1) (by omega))
      exact end_i hx hb hr hlocks hS (u := (a10, a11, gl9, upd ffn fx (nI (a10 + 1)))) (r := (nI ((fx + 1) - 1))) (at_end (hP.sub (ws' := [(h, .inr (6, [.ref st, .int (nI (fx + 1)), .ref fl, .ref fn, .ref li, .int (nI a10), .ref rc, .int (nI rn_), .int rb])), (fl, .inl (cI, 256, .inl gl9)), (fn, .inl (cI, 16, .inl (upd ffn fx (nI (a10 + 1))))), (li, .inl (cI, 32, .inl a11))]) [0, 1, 2, 3] rfl) (hD.sub (ws' := [(h, .inr (6, [.ref st, .int (nI (fx + 1)), .ref fl, .ref fn, .ref li, .int (nI a10), .ref rc, .int (nI rn_), .int rb])), (fl, .inl (cI, 256, .inl gl9)), (fn, .inl (cI, 16, .inl (upd ffn fx (nI (a10 + 1))))), (li, .inl (cI, 32, .inl a11))]) [0, 1, 2, 3] (by decide) rfl)) (⟨by first | rfl | exact (congrArg nI (by omega)), hX.new hfx hGl (by have z9 := hIk15.2; rw [hkk15] at z9; exact z9), hGl, by have z9 := hIk15.1; rw [hkk15, ← hGn] at z9; have z8 := z9.row (by omega) (fun x hx => by have := hGA.mem (by omega) x hx; omega); rw [hGn] at z8; exact z8, pk_us, fun j hj => hIk15.1.2.2 j (Or.inl hj), fun i hi => pk_un (by omega)⟩) (Nat.le_of_ble_eq_true rfl) (Nat.le_of_ble_eq_true rfl) d_World_fix_148
    · have hc23N : ¬ a10 ≤ k15 := fun z9 => hc23 ((nI_leI (a := a10) (b := k15) (by omega) (by omega)).mpr z9)
      exact absurd hc23N (by omega)

