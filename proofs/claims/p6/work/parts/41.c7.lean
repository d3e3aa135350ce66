set_option maxHeartbeats 4000000 in
set_option maxRecDepth 100000 in
theorem w_holderBehind (l : Launch) (D : va_G) (cI cZ cJ : ClassId) (h st fl fn li rc kd it pa : Nat) (fx le rn_ : Nat) (rb : Int32) (fo oo : Int32) (pp : Nat) (fkd fpa ffl ffn fli : Nat → Int32) (sz : Nat) (hfx : fx ≤ 16) (hpa : PAR fpa) (hfn : FLN ffn) (hfl : FLL ffl) (hon : ON oo) (hp : pp < 8) : Met l y_World_holderBehind (.code y_World_holderBehind prog_8_method_16_code 5 (some .int) :: AW) ({ frames := 2, cells := 0, slots := 0, locals := 162 }) (va_Pc [.ref h, .int fo, .int oo, .int (nI pp)] (pre_ D [(h, .inr (6, [.ref st, .int (nI fx), .ref fl, .ref fn, .ref li, .int (nI le), .ref rc, .int (nI rn_), .int rb])), (st, .inr (3, [.ref kd, .ref it, .ref pa])), (pa, .inl (cI, 16, .inl fpa)), (fl, .inl (cI, 256, .inl ffl)), (fn, .inl (cI, 16, .inl ffn)), (li, .inl (cI, 32, .inl fli)), (kd, .inl (cI, 256, .inl fkd))] [(cI, .int), (cZ, .boolean), (cJ, .long)] sz)) (va_Qi (fun (r : Int32) (u : Nat × (Nat → Int32)) => ON r ∧ u.1 ≤ 32 ∧ ROW u.2 u.1) (fun u t => match u with | (le2, g) => post_ D (va_A [(h, .inr (6, [.ref st, .int (nI fx), .ref fl, .ref fn, .ref li, .int (nI le), .ref rc, .int (nI rn_), .int rb])), (st, .inr (3, [.ref kd, .ref it, .ref pa])), (pa, .inl (cI, 16, .inl fpa)), (fl, .inl (cI, 256, .inl ffl)), (fn, .inl (cI, 16, .inl ffn)), (li, .inl (cI, 32, .inl fli)), (kd, .inl (cI, 256, .inl fkd))] sz) [(h, .inr (6, [.ref st, .int (nI fx), .ref fl, .ref fn, .ref li, .int (nI le2), .ref rc, .int (nI rn_), .int rb])), (st, .inr (3, [.ref kd, .ref it, .ref pa])), (pa, .inl (cI, 16, .inl fpa)), (fl, .inl (cI, 256, .inl ffl)), (fn, .inl (cI, 16, .inl ffn)), (li, .inl (cI, 32, .inl g)), (kd, .inl (cI, 256, .inl fkd))] t) (va_A [(h, .inr (6, [.ref st, .int (nI fx), .ref fl, .ref fn, .ref li, .int (nI le), .ref rc, .int (nI rn_), .int rb])), (st, .inr (3, [.ref kd, .ref it, .ref pa])), (pa, .inl (cI, 16, .inl fpa)), (fl, .inl (cI, 256, .inl ffl)), (fn, .inl (cI, 16, .inl ffn)), (li, .inl (cI, 32, .inl fli)), (kd, .inl (cI, 256, .inl fkd))] sz)) 0 0 (va_A [(h, .inr (6, [.ref st, .int (nI fx), .ref fl, .ref fn, .ref li, .int (nI le), .ref rc, .int (nI rn_), .int rb])), (st, .inr (3, [.ref kd, .ref it, .ref pa])), (pa, .inl (cI, 16, .inl fpa)), (fl, .inl (cI, 256, .inl ffl)), (fn, .inl (cI, 16, .inl ffn)), (li, .inl (cI, 32, .inl fli)), (kd, .inl (cI, 256, .inl fkd))] sz) := by
  refine Met.ofW (cc := prog_8_method_16_code) (maxL := 5) (ret := (some .int)) (by decide) rfl ?_
  intro p e s m args below meth c s₁ B hml hv
  obtain ⟨rfl, rfl, hP, hK, hD0, hT⟩ := hv
  have hx := B.exec
  have hb := B.bytes
  have hr := B.returns
  have hts0 := atoms_spec (ws := .code y_World_holderBehind prog_8_method_16_code 5 (some .int) :: AW) B.pre
  have hts : ∀ w ∈ AW, w.before [.ref h, .int fo, .int oo, .int (nI pp)].toArray s = true := fun w h => hts0 w (List.mem_cons_of_mem _ h)
  have hown : s.vm.findClass "TaleMachine$World" = some m.cls := findClass_of_methodNamed B.named
  have hlocks := B.notSynchronized
  have hD := hD0.self (sz := s.heap.size)
  generalize hAe : va_A [(h, .inr (6, [.ref st, .int (nI fx), .ref fl, .ref fn, .ref li, .int (nI le), .ref rc, .int (nI rn_), .int rb])), (st, .inr (3, [.ref kd, .ref it, .ref pa])), (pa, .inl (cI, 16, .inl fpa)), (fl, .inl (cI, 256, .inl ffl)), (fn, .inl (cI, 16, .inl ffn)), (li, .inl (cI, 32, .inl fli)), (kd, .inl (cI, 256, .inl fkd))] s.heap.size = A at hD ⊢
  have hA : ∀ q : Nat, s.heap.size ≤ q → A q := fun q h => by rw [← hAe]; exact Or.inr h
  have hS : va_S A s.heap s.heap [] := va_S.rf
  have hl := lv_entry ([.ref h, .int fo, .int oo, .int (nI pp)]) (n := 5) (Nat.le_of_ble_eq_true rfl)
  rw [lg_entry_eq]
  generalize (lg_sl ([.ref h, .int fo, .int oo, .int (nI pp)]) ++ List.replicate (5 - (lg_sl ([.ref h, .int fo, .int oo, .int (nI pp)])).length) Slot.unset).toArray = ls at hl ⊢
  have hl : lv_has ls 5 [(0, .ref h), (1, .int fo), (2, .int oo), (3, .int (nI pp))] := hl
  refine lv_aload_n hx hb d_World_holderBehind_0 rfl (lv_at hl 0 rfl) ?_
  refine lv_iload_n hx hb d_World_holderBehind_1 rfl (lv_at hl 2 rfl) ?_
  refine mv_v (va_runV (C := "TaleMachine$World") (As := [.int oo]) (rest := []) ⟨hx, hb, hml, hown, hts⟩ (w_lay l D cI cZ cJ h st fl fn li rc kd it pa fx le rn_ rb oo fpa ffl ffn fli _ (by first | assumption | omega | decide) (by first | assumption | omega | decide) (by first | assumption | omega | decide) (by first | assumption | omega | decide) (by first | assumption | omega | decide)) (cwV 1 hts (gInV k_322 k_268 k_269 k_3 k_270) rfl rfl rfl (by decide +kernel) ⟨Nat.le_of_ble_eq_true rfl, Nat.le_of_ble_eq_true rfl⟩) (pre_V (va_recv hK hP (q := ("TaleMachine$World", F_World, 9)) rfl (q0 := 0) rfl) (hP.sub [0, 1, 2, 3, 4, 5] rfl) (hK.sub [0, 1, 2] rfl) (hD.sub [0, 1, 2, 3, 4, 5] (by decide) rfl) hT) rfl rfl hl.1 rfl (lv_room (Nat.le_of_ble_eq_true rfl)) d_World_holderBehind_2 ⟨Nat.le_of_ble_eq_true rfl, Nat.le_of_ble_eq_true rfl⟩) hP hD hS hA [0, 1, 2, 3, 4, 5] [6] rfl rfl (by decide) (by decide) (wr := [(kd, .inl (cI, 256, .inl fkd))]) (wn := fun u => match u with | (le2, g) => [(h, .inr (6, [.ref st, .int (nI fx), .ref fl, .ref fn, .ref li, .int (nI le2), .ref rc, .int (nI rn_), .int rb])), (st, .inr (3, [.ref kd, .ref it, .ref pa])), (pa, .inl (cI, 16, .inl fpa)), (fl, .inl (cI, 256, .inl ffl)), (fn, .inl (cI, 16, .inl ffn)), (li, .inl (cI, 32, .inl g))]) (fun _ _ h9 => h9) (fun u H locs hp4 hP hD hS => ?_)
  obtain ⟨a1, a2⟩ := u
  dsimp only at hp4
  have hP : va_P D cL [(kd, .inl (cI, 256, .inl fkd)), (h, .inr (6, [.ref st, .int (nI fx), .ref fl, .ref fn, .ref li, .int (nI a1), .ref rc, .int (nI rn_), .int rb])), (st, .inr (3, [.ref kd, .ref it, .ref pa])), (pa, .inl (cI, 16, .inl fpa)), (fl, .inl (cI, 256, .inl ffl)), (fn, .inl (cI, 16, .inl ffn)), (li, .inl (cI, 32, .inl a2))] H := hP
  have hD : va_D A [(kd, .inl (cI, 256, .inl fkd)), (h, .inr (6, [.ref st, .int (nI fx), .ref fl, .ref fn, .ref li, .int (nI a1), .ref rc, .int (nI rn_), .int rb])), (st, .inr (3, [.ref kd, .ref it, .ref pa])), (pa, .inl (cI, 16, .inl fpa)), (fl, .inl (cI, 256, .inl ffl)), (fn, .inl (cI, 16, .inl ffn)), (li, .inl (cI, 32, .inl a2))] := hD
  refine lv_aload_n hx hb d_World_holderBehind_5 rfl (lv_at hl 0 rfl) ?_
  refine lv_iload_n hx hb d_World_holderBehind_6 rfl (lv_at hl 1 rfl) ?_
  refine mv_i (va_runV (C := "TaleMachine$World") (As := [.int fo]) (rest := []) ⟨hx, hb, hml, hown, hts⟩ (w_inLine l D cI cZ cJ h st fl fn li rc 0 0 0 fx a1 rn_ rb fo a2 _ hp4.1) (cwV 1 hts (gInV k_367 k_278 k_279 k_3 k_280) rfl rfl rfl (by decide +kernel) ⟨Nat.le_of_ble_eq_true rfl, Nat.le_of_ble_eq_true rfl⟩) (pre_V (va_recv hK hP (q := ("TaleMachine$World", F_World, 9)) rfl (q0 := 1) rfl) (hP.sub [1, 6] rfl) (hK.sub [0, 1, 2] rfl) (hD.sub [1, 6] (by decide) rfl) hT) rfl rfl hl.1 rfl (lv_room (Nat.le_of_ble_eq_true rfl)) d_World_holderBehind_7 ⟨Nat.le_of_ble_eq_true rfl, Nat.le_of_ble_eq_true rfl⟩) hP hD hS hA [1, 6] [0, 2, 3, 4, 5] rfl rfl (by decide) (by decide) (wr := [(kd, .inl (cI, 256, .inl fkd)), (st, .inr (3, [.ref kd, .ref it, .ref pa])), (pa, .inl (cI, 16, .inl fpa)), (fl, .inl (cI, 256, .inl ffl)), (fn, .inl (cI, 16, .inl ffn))]) (wn := fun _ => [(h, .inr (6, [.ref st, .int (nI fx), .ref fl, .ref fn, .ref li, .int (nI a1), .ref rc, .int (nI rn_), .int rb])), (li, .inl (cI, 32, .inl a2))]) (fun _ _ h9 => h9) (fun r5 _ H locs hp6 hP hD hS => ?_)
  have hP : va_P D cL [(kd, .inl (cI, 256, .inl fkd)), (st, .inr (3, [.ref kd, .ref it, .ref pa])), (pa, .inl (cI, 16, .inl fpa)), (fl, .inl (cI, 256, .inl ffl)), (fn, .inl (cI, 16, .inl ffn)), (h, .inr (6, [.ref st, .int (nI fx), .ref fl, .ref fn, .ref li, .int (nI a1), .ref rc, .int (nI rn_), .int rb])), (li, .inl (cI, 32, .inl a2))] H := hP
  have hD : va_D A [(kd, .inl (cI, 256, .inl fkd)), (st, .inr (3, [.ref kd, .ref it, .ref pa])), (pa, .inl (cI, 16, .inl fpa)), (fl, .inl (cI, 256, .inl ffl)), (fn, .inl (cI, 16, .inl ffn)), (h, .inr (6, [.ref st, .int (nI fx), .ref fl, .ref fn, .ref li, .int (nI a1), .ref rc, .int (nI rn_), .int rb])), (li, .inl (cI, 32, .inl a2))] := hD
  refine lv_istore (lv' := [(4, .int r5), (0, .ref h), (1, .int fo), (2, .int oo), (3, .int (nI pp))]) hx hb d_World_holderBehind_10 hl (by decide) rfl (fun ls hl => ?_)
  refine lv_iload hx hb d_World_holderBehind_12 (lv_at hl 0 rfl) ?_
  refine lv_iconst (v := (-1)) hx hb d_World_holderBehind_14 (by decide) ?_
  refine lv_icmp_ne hx hb d_World_holderBehind_15 (tgt := 22) (by decide) (fun hc7 => ?_) (fun hc7 => ?_)
  · obtain ⟨j9, hj9, ej9⟩ := hp6.resolve_left hc7
    subst ej9
    refine lv_aload_n hx hb d_World_holderBehind_22 rfl (lv_at hl 1 rfl) ?_
    refine lv_iload hx hb d_World_holderBehind_23 (lv_at hl 0 rfl) ?_
    refine lv_iconst (v := 1) hx hb d_World_holderBehind_25 (by decide) ?_
    refine lv_iadd hx hb d_World_holderBehind_26 ?_
    refine lv_topi (fun z8 hz8 => ?_)
    obtain rfl : z8 = nI (j9 + 1) := hz8.trans (nI_add j9 1)
    refine lv_iload_n hx hb d_World_holderBehind_27 rfl (lv_at hl 4 rfl) ?_
    refine mv_i (va_runV (C := "TaleMachine$World") (As := [.int (nI (j9 + 1)), .int (nI pp)]) (rest := []) ⟨hx, hb, hml, hown, hts⟩ (w_holderFrom l D cI cZ cJ h st fl fn li rc kd it pa fx a1 rn_ rb (j9 + 1) pp fkd a2 _ (by first | assumption | omega | decide) hp4.1 (by first | assumption | omega | decide) hp4.2) (cwV 2 hts (gInV k_323 k_324 k_882 k_3 k_325) rfl rfl rfl (by decide +kernel) ⟨Nat.le_of_ble_eq_true rfl, Nat.le_of_ble_eq_true rfl⟩) (pre_V (va_recv hK hP (q := ("TaleMachine$World", F_World, 9)) rfl (q0 := 5) rfl) (hP.sub [5, 1, 0, 6] rfl) (hK.sub [0, 1, 2] rfl) (hD.sub [5, 1, 0, 6] (by decide) rfl) hT) rfl rfl hl.1 rfl (lv_room (Nat.le_of_ble_eq_true rfl)) d_World_holderBehind_28 ⟨Nat.le_of_ble_eq_true rfl, Nat.le_of_ble_eq_true rfl⟩) hP hD hS hA [5, 1, 0, 6] [2, 3, 4] rfl rfl (by decide) (by decide) (wr := [(pa, .inl (cI, 16, .inl fpa)), (fl, .inl (cI, 256, .inl ffl)), (fn, .inl (cI, 16, .inl ffn))]) (wn := fun _ => [(h, .inr (6, [.ref st, .int (nI fx), .ref fl, .ref fn, .ref li, .int (nI a1), .ref rc, .int (nI rn_), .int rb])), (st, .inr (3, [.ref kd, .ref it, .ref pa])), (kd, .inl (cI, 256, .inl fkd)), (li, .inl (cI, 32, .inl a2))]) (fun _ _ h9 => h9) (fun r9 _ H locs hp10 hP hD hS => ?_)
    have hP : va_P D cL [(pa, .inl (cI, 16, .inl fpa)), (fl, .inl (cI, 256, .inl ffl)), (fn, .inl (cI, 16, .inl ffn)), (h, .inr (6, [.ref st, .int (nI fx), .ref fl, .ref fn, .ref li, .int (nI a1), .ref rc, .int (nI rn_), .int rb])), (st, .inr (3, [.ref kd, .ref it, .ref pa])), (kd, .inl (cI, 256, .inl fkd)), (li, .inl (cI, 32, .inl a2))] H := hP
    have hD : va_D A [(pa, .inl (cI, 16, .inl fpa)), (fl, .inl (cI, 256, .inl ffl)), (fn, .inl (cI, 16, .inl ffn)), (h, .inr (6, [.ref st, .int (nI fx), .ref fl, .ref fn, .ref li, .int (nI a1), .ref rc, .int (nI rn_), .int rb])), (st, .inr (3, [.ref kd, .ref it, .ref pa])), (kd, .inl (cI, 256, .inl fkd)), (li, .inl (cI, 32, .inl a2))] := hD
    exact end_i hx hb hr hlocks hS (u := (a1, a2)) (r := r9) (at_end (hP.sub (ws' := [(h, .inr (6, [.ref st, .int (nI fx), .ref fl, .ref fn, .ref li, .int (nI a1), .ref rc, .int (nI rn_), .int rb])), (st, .inr (3, [.ref kd, .ref it, .ref pa])), (pa, .inl (cI, 16, .inl fpa)), (fl, .inl (cI, 256, .inl ffl)), (fn, .inl (cI, 16, .inl ffn)), (li, .inl (cI, 32, .inl a2)), (kd, .inl (cI, 256, .inl fkd))]) [3, 4, 0, 1, 2, 6, 5] rfl) (hD.sub (ws' := [(h, .inr (6, [.ref st, .int (nI fx), .ref fl, .ref fn, .ref li, .int (nI a1), .ref rc, .int (nI rn_), .int rb])), (st, .inr (3, [.ref kd, .ref it, .ref pa])), (pa, .inl (cI, 16, .inl fpa)), (fl, .inl (cI, 256, .inl ffl)), (fn, .inl (cI, 16, .inl ffn)), (li, .inl (cI, 32, .inl a2)), (kd, .inl (cI, 256, .inl fkd))]) [3, 4, 0, 1, 2, 6, 5] (by decide) rfl)) (⟨hp10, hp4.1, hp4.2⟩) (Nat.le_of_ble_eq_true rfl) (Nat.le_of_ble_eq_true rfl) d_World_holderBehind_31
  · refine lv_iconst (v := (-1)) hx hb d_World_holderBehind_18 (by decide) ?_
    refine lv_goto hx hb d_World_holderBehind_19 (tgt := 31) (by decide) ?_
    exact end_i hx hb hr hlocks hS (u := (a1, a2)) (r := (-1)) (at_end (hP.sub (ws' := [(h, .inr (6, [.ref st, .int (nI fx), .ref fl, .ref fn, .ref li, .int (nI a1), .ref rc, .int (nI rn_), .int rb])), (st, .inr (3, [.ref kd, .ref it, .ref pa])), (pa, .inl (cI, 16, .inl fpa)), (fl, .inl (cI, 256, .inl ffl)), (fn, .inl (cI, 16, .inl ffn)), (li, .inl (cI, 32, .inl a2)), (kd, .inl (cI, 256, .inl fkd))]) [5, 1, 2, 3, 4, 6, 0] rfl) (hD.sub (ws' := [(h, .inr (6, [.ref st, .int (nI fx), .ref fl, .ref fn, .ref li, .int (nI a1), .ref rc, .int (nI rn_), .int rb])), (st, .inr (3, [.ref kd, .ref it, .ref pa])), (pa, .inl (cI, 16, .inl fpa)), (fl, .inl (cI, 256, .inl ffl)), (fn, .inl (cI, 16, .inl ffn)), (li, .inl (cI, 32, .inl a2)), (kd, .inl (cI, 256, .inl fkd))]) [5, 1, 2, 3, 4, 6, 0] (by decide) rfl)) (⟨Or.inl rfl, hp4.1, hp4.2⟩) (Nat.le_of_ble_eq_true rfl) (Nat.le_of_ble_eq_true rfl) d_World_holderBehind_31

set_option maxHeartbeats 4000000 in
set_option maxRecDepth 100000 in
theorem w_reach (l : Launch) (D : va_G) (cI cZ cJ : ClassId) (h st fl fn li rc kd it pa : Nat) (fx le rn_ : Nat) (rb : Int32) (oo : Int32) (fpa frc : Nat → Int32) (sz : Nat) (hfx : fx ≤ 16) (hrch : RCH frc rn_ rb) : Met l y_World_reach (.code y_World_reach prog_8_method_19_code 2 none :: AW) ({ frames := 2, cells := 0, slots := 0, locals := 42 }) (va_Pc [.ref h, .int oo] (pre_ D [(h, .inr (6, [.ref st, .int (nI fx), .ref fl, .ref fn, .ref li, .int (nI le), .ref rc, .int (nI rn_), .int rb])), (st, .inr (3, [.ref kd, .ref it, .ref pa])), (pa, .inl (cI, 16, .inl fpa)), (rc, .inl (cI, 32, .inl frc))] [(cI, .int), (cZ, .boolean), (cJ, .long)] sz)) (va_Qv (fun (u : Nat × Int32 × (Nat → Int32)) => RCH u.2.2 u.1 u.2.1) (fun u t => match u with | (rn2, rb2, g) => post_ D (va_A [(h, .inr (6, [.ref st, .int (nI fx), .ref fl, .ref fn, .ref li, .int (nI le), .ref rc, .int (nI rn_), .int rb])), (st, .inr (3, [.ref kd, .ref it, .ref pa])), (pa, .inl (cI, 16, .inl fpa)), (rc, .inl (cI, 32, .inl frc))] sz) [(h, .inr (6, [.ref st, .int (nI fx), .ref fl, .ref fn, .ref li, .int (nI le), .ref rc, .int (nI rn2), .int rb2])), (st, .inr (3, [.ref kd, .ref it, .ref pa])), (pa, .inl (cI, 16, .inl fpa)), (rc, .inl (cI, 32, .inl g))] t) (va_A [(h, .inr (6, [.ref st, .int (nI fx), .ref fl, .ref fn, .ref li, .int (nI le), .ref rc, .int (nI rn_), .int rb])), (st, .inr (3, [.ref kd, .ref it, .ref pa])), (pa, .inl (cI, 16, .inl fpa)), (rc, .inl (cI, 32, .inl frc))] sz)) 0 0 (va_A [(h, .inr (6, [.ref st, .int (nI fx), .ref fl, .ref fn, .ref li, .int (nI le), .ref rc, .int (nI rn_), .int rb])), (st, .inr (3, [.ref kd, .ref it, .ref pa])), (pa, .inl (cI, 16, .inl fpa)), (rc, .inl (cI, 32, .inl frc))] sz) := by
  refine Met.ofW (cc := prog_8_method_19_code) (maxL := 2) (ret := none) (by decide) rfl ?_
  intro p e s m args below meth c s₁ B hml hv
  obtain ⟨rfl, rfl, hP, hK, hD0, hT⟩ := hv
  have hx := B.exec
  have hb := B.bytes
  have hr := B.returns
  have hts0 := atoms_spec (ws := .code y_World_reach prog_8_method_19_code 2 none :: AW) B.pre
  have hts : ∀ w ∈ AW, w.before [.ref h, .int oo].toArray s = true := fun w h => hts0 w (List.mem_cons_of_mem _ h)
  have hown : s.vm.findClass "TaleMachine$World" = some m.cls := findClass_of_methodNamed B.named
  have hlocks := B.notSynchronized
  have hD := hD0.self (sz := s.heap.size)
  generalize hAe : va_A [(h, .inr (6, [.ref st, .int (nI fx), .ref fl, .ref fn, .ref li, .int (nI le), .ref rc, .int (nI rn_), .int rb])), (st, .inr (3, [.ref kd, .ref it, .ref pa])), (pa, .inl (cI, 16, .inl fpa)), (rc, .inl (cI, 32, .inl frc))] s.heap.size = A at hD ⊢
  have hA : ∀ q : Nat, s.heap.size ≤ q → A q := fun q h => by rw [← hAe]; exact Or.inr h
  have hS : va_S A s.heap s.heap [] := va_S.rf
  have hl := lv_entry ([.ref h, .int oo]) (n := 2) (Nat.le_of_ble_eq_true rfl)
  rw [lg_entry_eq]
  generalize (lg_sl ([.ref h, .int oo]) ++ List.replicate (2 - (lg_sl ([.ref h, .int oo])).length) Slot.unset).toArray = ls at hl ⊢
  have hl : lv_has ls 2 [(0, .ref h), (1, .int oo)] := hl
  refine lv_aload_n hx hb d_World_reach_0 rfl (lv_at hl 0 rfl) ?_
  refine lv_iload_n hx hb d_World_reach_1 rfl (lv_at hl 1 rfl) ?_
  refine mv_i (va_runV (C := "TaleMachine$World") (As := [.int oo]) (rest := []) ⟨hx, hb, hml, hown, hts⟩ (w_isThere l D cI cZ cJ h st fl fn li rc kd it pa fx le rn_ rb oo fpa _ (by first | assumption | omega | decide)) (cwV 1 hts (gInV k_393 k_232 k_233 k_3 k_234) rfl rfl rfl (by decide +kernel) ⟨Nat.le_of_ble_eq_true rfl, Nat.le_of_ble_eq_true rfl⟩) (pre_V (va_recv hK hP (q := ("TaleMachine$World", F_World, 9)) rfl (q0 := 0) rfl) (hP.sub [0, 1, 2] rfl) (hK.sub [0, 1, 2] rfl) (hD.sub [0, 1, 2] (by decide) rfl) hT) rfl rfl hl.1 rfl (lv_room (Nat.le_of_ble_eq_true rfl)) d_World_reach_2 ⟨Nat.le_of_ble_eq_true rfl, Nat.le_of_ble_eq_true rfl⟩) hP hD hS hA [0, 1, 2] [3] rfl rfl (by decide) (by decide) (wr := [(rc, .inl (cI, 32, .inl frc))]) (wn := fun _ => [(h, .inr (6, [.ref st, .int (nI fx), .ref fl, .ref fn, .ref li, .int (nI le), .ref rc, .int (nI rn_), .int rb])), (st, .inr (3, [.ref kd, .ref it, .ref pa])), (pa, .inl (cI, 16, .inl fpa))]) (fun _ _ h9 => h9) (fun r1 _ H locs hp2 hP hD hS => ?_)
  have hP : va_P D cL [(rc, .inl (cI, 32, .inl frc)), (h, .inr (6, [.ref st, .int (nI fx), .ref fl, .ref fn, .ref li, .int (nI le), .ref rc, .int (nI rn_), .int rb])), (st, .inr (3, [.ref kd, .ref it, .ref pa])), (pa, .inl (cI, 16, .inl fpa))] H := hP
  have hD : va_D A [(rc, .inl (cI, 32, .inl frc)), (h, .inr (6, [.ref st, .int (nI fx), .ref fl, .ref fn, .ref li, .int (nI le), .ref rc, .int (nI rn_), .int rb])), (st, .inr (3, [.ref kd, .ref it, .ref pa])), (pa, .inl (cI, 16, .inl fpa))] := hD
  refine lv_if_eq hx hb d_World_reach_5 (tgt := 51) (by decide) (fun hc3 => ?_) (fun hc3 => ?_)
  · exact end_v hx hb hr hlocks hS (u := (rn_, rb, frc)) (at_end (hP.sub (ws' := [(h, .inr (6, [.ref st, .int (nI fx), .ref fl, .ref fn, .ref li, .int (nI le), .ref rc, .int (nI rn_), .int rb])), (st, .inr (3, [.ref kd, .ref it, .ref pa])), (pa, .inl (cI, 16, .inl fpa)), (rc, .inl (cI, 32, .inl frc))]) [1, 2, 3, 0] rfl) (hD.sub (ws' := [(h, .inr (6, [.ref st, .int (nI fx), .ref fl, .ref fn, .ref li, .int (nI le), .ref rc, .int (nI rn_), .int rb])), (st, .inr (3, [.ref kd, .ref it, .ref pa])), (pa, .inl (cI, 16, .inl fpa)), (rc, .inl (cI, 32, .inl frc))]) [1, 2, 3, 0] (by decide) rfl)) (hrch) (Nat.le_of_ble_eq_true rfl) (Nat.le_of_ble_eq_true rfl) d_World_reach_51
  · obtain ⟨j, hj, hje⟩ := there_lt hfx (hp2.2.mp (by rcases hp2.1 with h9 | h9; exact absurd h9 hc3; exact h9))
    subst hje
    refine lv_aload_n hx hb d_World_reach_8 rfl (lv_at hl 0 rfl) ?_
    refine va_get (D := D) (ci := 6) (v := .int rb) (C := "TaleMachine$World") (T := F_World) (N := 9) hx hb hts in_World hown hK hP 1 rfl rfl 8 (by decide) (hts _ k_70) (fun _ h9 => h9) rfl d_World_reach_9 ?_
    refine lv_iload_n hx hb d_World_reach_12 rfl (lv_at hl 1 rfl) ?_
    refine lv_iushr hx hb d_World_reach_13 rfl ?_
    refine lv_iconst (v := 1) hx hb d_World_reach_14 (by decide) ?_
    refine lv_iand hx hb d_World_reach_15 ?_
    refine lv_if_ne hx hb d_World_reach_16 (tgt := 51) (by decide) (fun hc4 => ?_) (fun hc4 => ?_)
    · exact end_v hx hb hr hlocks hS (u := (rn_, rb, frc)) (at_end (hP.sub (ws' := [(h, .inr (6, [.ref st, .int (nI fx), .ref fl, .ref fn, .ref li, .int (nI le), .ref rc, .int (nI rn_), .int rb])), (st, .inr (3, [.ref kd, .ref it, .ref pa])), (pa, .inl (cI, 16, .inl fpa)), (rc, .inl (cI, 32, .inl frc))]) [1, 2, 3, 0] rfl) (hD.sub (ws' := [(h, .inr (6, [.ref st, .int (nI fx), .ref fl, .ref fn, .ref li, .int (nI le), .ref rc, .int (nI rn_), .int rb])), (st, .inr (3, [.ref kd, .ref it, .ref pa])), (pa, .inl (cI, 16, .inl fpa)), (rc, .inl (cI, 32, .inl frc))]) [1, 2, 3, 0] (by decide) rfl)) (hrch) (Nat.le_of_ble_eq_true rfl) (Nat.le_of_ble_eq_true rfl) d_World_reach_51
    · have hadd := hrch.add hj ((b_utest hj).mp hc4)
      have hn32 := hadd.1
      refine lv_aload_n hx hb d_World_reach_19 rfl (lv_at hl 0 rfl) ?_
      refine lv_dup hx hb d_World_reach_20 rfl ?_
      refine va_get (D := D) (ci := 6) (v := .int rb) (C := "TaleMachine$World") (T := F_World) (N := 9) hx hb hts in_World hown hK hP 1 rfl rfl 8 (by decide) (hts _ k_70) (fun _ h9 => h9) rfl d_World_reach_21 ?_
      refine lv_iconst (v := 1) hx hb d_World_reach_24 (by decide) ?_
      refine lv_iload_n hx hb d_World_reach_25 rfl (lv_at hl 1 rfl) ?_
      refine lv_ishl hx hb d_World_reach_26 ?_
      refine lv_ior hx hb d_World_reach_27 ?_
      refine va_put (D := D) (ci := 6) (v := .int (rb ||| (1 <<< ((nI j) &&& 31)))) (ty := .int) (C := "TaleMachine$World") (T := F_World) (N := 9) hx hb hts in_World t_World t_World_ok n_World hown hK hP hD hS 1 rfl rfl 8 (by decide) (hts _ k_70) (fun _ h9 => h9) rfl (by decide +kernel) rfl rfl (Nat.le_of_ble_eq_true rfl) d_World_reach_28 (fun H locs hP hD hS => ?_)
      have hP : va_P D cL [(rc, .inl (cI, 32, .inl frc)), (h, .inr (6, [.ref st, .int (nI fx), .ref fl, .ref fn, .ref li, .int (nI le), .ref rc, .int (nI rn_), .int (rb ||| (1 <<< ((nI j) &&& 31)))])), (st, .inr (3, [.ref kd, .ref it, .ref pa])), (pa, .inl (cI, 16, .inl fpa))] H := hP
      have hD : va_D A [(rc, .inl (cI, 32, .inl frc)), (h, .inr (6, [.ref st, .int (nI fx), .ref fl, .ref fn, .ref li, .int (nI le), .ref rc, .int (nI rn_), .int (rb ||| (1 <<< ((nI j) &&& 31)))])), (st, .inr (3, [.ref kd, .ref it, .ref pa])), (pa, .inl (cI, 16, .inl fpa))] := hD
      refine lv_aload_n hx hb d_World_reach_31 rfl (lv_at hl 0 rfl) ?_
      refine va_get (D := D) (ci := 6) (v := .ref rc) (C := "TaleMachine$World") (T := F_World) (N := 9) hx hb hts in_World hown hK hP 1 rfl rfl 6 (by decide) (hts _ k_68) (fun _ h9 => h9) rfl d_World_reach_32 ?_
      refine lv_aload_n hx hb d_World_reach_35 rfl (lv_at hl 0 rfl) ?_
      refine va_get (D := D) (ci := 6) (v := .int (nI rn_)) (C := "TaleMachine$World") (T := F_World) (N := 9) hx hb hts in_World hown hK hP 1 rfl rfl 7 (by decide) (hts _ k_69) (fun _ h9 => h9) rfl d_World_reach_36 ?_
      refine lv_iload_n hx hb d_World_reach_39 rfl (lv_at hl 1 rfl) ?_
      refine ia_st hx hb hK hP hD hS 0 0 rfl rfl (k := rn_) (x := (nI j)) (by omega) (by first | decide | assumption) d_World_reach_40 (fun H locs hP hD hS => ?_)
      have hP : va_P D cL [(rc, .inl (cI, 32, .inl (upd frc rn_ (nI j)))), (h, .inr (6, [.ref st, .int (nI fx), .ref fl, .ref fn, .ref li, .int (nI le), .ref rc, .int (nI rn_), .int (rb ||| (1 <<< ((nI j) &&& 31)))])), (st, .inr (3, [.ref kd, .ref it, .ref pa])), (pa, .inl (cI, 16, .inl fpa))] H := hP
      have hD : va_D A [(rc, .inl (cI, 32, .inl (upd frc rn_ (nI j)))), (h, .inr (6, [.ref st, .int (nI fx), .ref fl, .ref fn, .ref li, .int (nI le), .ref rc, .int (nI rn_), .int (rb ||| (1 <<< ((nI j) &&& 31)))])), (st, .inr (3, [.ref kd, .ref it, .ref pa])), (pa, .inl (cI, 16, .inl fpa))] := hD
      refine lv_aload_n hx hb d_World_reach_41 rfl (lv_at hl 0 rfl) ?_
      refine lv_dup hx hb d_World_reach_42 rfl ?_
      refine va_get (D := D) (ci := 6) (v := .int (nI rn_)) (C := "TaleMachine$World") (T := F_World) (N := 9) hx hb hts in_World hown hK hP 1 rfl rfl 7 (by decide) (hts _ k_69) (fun _ h9 => h9) rfl d_World_reach_43 ?_
      refine lv_iconst (v := 1) hx hb d_World_reach_46 (by decide) ?_
      refine lv_iadd hx hb d_World_reach_47 ?_
      refine lv_topi (fun z5 hz5 => ?_)
      obtain rfl : z5 = nI (rn_ + 1) := hz5.trans (nI_add rn_ 1)
      refine va_put (D := D) (ci := 6) (v := .int (nI (rn_ + 1))) (ty := .int) (C := "TaleMachine$World") (T := F_World) (N := 9) hx hb hts in_World t_World t_World_ok n_World hown hK hP hD hS 1 rfl rfl 7 (by decide) (hts _ k_69) (fun _ h9 => h9) rfl (by decide +kernel) rfl rfl (Nat.le_of_ble_eq_true rfl) d_World_reach_48 (fun H locs hP hD hS => ?_)
      have hP : va_P D cL [(rc, .inl (cI, 32, .inl (upd frc rn_ (nI j)))), (h, .inr (6, [.ref st, .int (nI fx), .ref fl, .ref fn, .ref li, .int (nI le), .ref rc, .int (nI (rn_ + 1)), .int (rb ||| (1 <<< ((nI j) &&& 31)))])), (st, .inr (3, [.ref kd, .ref it, .ref pa])), (pa, .inl (cI, 16, .inl fpa))] H := hP
      have hD : va_D A [(rc, .inl (cI, 32, .inl (upd frc rn_ (nI j)))), (h, .inr (6, [.ref st, .int (nI fx), .ref fl, .ref fn, .ref li, .int (nI le), .ref rc, .int (nI (rn_ + 1)), .int (rb ||| (1 <<< ((nI j) &&& 31)))])), (st, .inr (3, [.ref kd, .ref it, .ref pa])), (pa, .inl (cI, 16, .inl fpa))] := hD
      exact end_v hx hb hr hlocks hS (u := (rn_ + 1, rb ||| (1 <<< ((nI j) &&& 31)), upd frc rn_ (nI j))) (at_end (hP.sub (ws' := [(h, .inr (6, [.ref st, .int (nI fx), .ref fl, .ref fn, .ref li, .int (nI le), .ref rc, .int (nI (rn_ + 1)), .int (rb ||| (1 <<< ((nI j) &&& 31)))])), (st, .inr (3, [.ref kd, .ref it, .ref pa])), (pa, .inl (cI, 16, .inl fpa)), (rc, .inl (cI, 32, .inl (upd frc rn_ (nI j))))]) [1, 2, 3, 0] rfl) (hD.sub (ws' := [(h, .inr (6, [.ref st, .int (nI fx), .ref fl, .ref fn, .ref li, .int (nI le), .ref rc, .int (nI (rn_ + 1)), .int (rb ||| (1 <<< ((nI j) &&& 31)))])), (st, .inr (3, [.ref kd, .ref it, .ref pa])), (pa, .inl (cI, 16, .inl fpa)), (rc, .inl (cI, 32, .inl (upd frc rn_ (nI j))))]) [1, 2, 3, 0] (by decide) rfl)) (hadd.2) (Nat.le_of_ble_eq_true rfl) (Nat.le_of_ble_eq_true rfl) d_World_reach_51

set_option maxHeartbeats 4000000 in
set_option maxRecDepth 100000 in
theorem w_reachValue (l : Launch) (D : va_G) (cI cZ cJ : ClassId) (h st fl fn li rc kd it pa : Nat) (fx le rn_ : Nat) (rb : Int32) (kk oo : Int32) (fpa frc : Nat → Int32) (sz : Nat) (hfx : fx ≤ 16) (hrch : RCH frc rn_ rb) : Met l y_World_reachValue (.code y_World_reachValue prog_8_method_20_code 3 none :: AW) ({ frames := 3, cells := 0, slots := 0, locals := 63 }) (va_Pc [.ref h, .int kk, .int oo] (pre_ D [(h, .inr (6, [.ref st, .int (nI fx), .ref fl, .ref fn, .ref li, .int (nI le), .ref rc, .int (nI rn_), .int rb])), (st, .inr (3, [.ref kd, .ref it, .ref pa])), (pa, .inl (cI, 16, .inl fpa)), (rc, .inl (cI, 32, .inl frc))] [(cI, .int), (cZ, .boolean), (cJ, .long)] sz)) (va_Qv (fun (u : Nat × Int32 × (Nat → Int32)) => RCH u.2.2 u.1 u.2.1) (fun u t => match u with | (rn2, rb2, g) => post_ D (va_A [(h, .inr (6, [.ref st, .int (nI fx), .ref fl, .ref fn, .ref li, .int (nI le), .ref rc, .int (nI rn_), .int rb])), (st, .inr (3, [.ref kd, .ref it, .ref pa])), (pa, .inl (cI, 16, .inl fpa)), (rc, .inl (cI, 32, .inl frc))] sz) [(h, .inr (6, [.ref st, .int (nI fx), .ref fl, .ref fn, .ref li, .int (nI le), .ref rc, .int (nI rn2), .int rb2])), (st, .inr (3, [.ref kd, .ref it, .ref pa])), (pa, .inl (cI, 16, .inl fpa)), (rc, .inl (cI, 32, .inl g))] t) (va_A [(h, .inr (6, [.ref st, .int (nI fx), .ref fl, .ref fn, .ref li, .int (nI le), .ref rc, .int (nI rn_), .int rb])), (st, .inr (3, [.ref kd, .ref it, .ref pa])), (pa, .inl (cI, 16, .inl fpa)), (rc, .inl (cI, 32, .inl frc))] sz)) 0 0 (va_A [(h, .inr (6, [.ref st, .int (nI fx), .ref fl, .ref fn, .ref li, .int (nI le), .ref rc, .int (nI rn_), .int rb])), (st, .inr (3, [.ref kd, .ref it, .ref pa])), (pa, .inl (cI, 16, .inl fpa)), (rc, .inl (cI, 32, .inl frc))] sz) := by
  refine Met.ofW (cc := prog_8_method_20_code) (maxL := 3) (ret := none) (by decide) rfl ?_
  intro p e s m args below meth c s₁ B hml hv
  obtain ⟨rfl, rfl, hP, hK, hD0, hT⟩ := hv
  have hx := B.exec
  have hb := B.bytes
  have hr := B.returns
  have hts0 := atoms_spec (ws := .code y_World_reachValue prog_8_method_20_code 3 none :: AW) B.pre
  have hts : ∀ w ∈ AW, w.before [.ref h, .int kk, .int oo].toArray s = true := fun w h => hts0 w (List.mem_cons_of_mem _ h)
  have hown : s.vm.findClass "TaleMachine$World" = some m.cls := findClass_of_methodNamed B.named
  have hlocks := B.notSynchronized
  have hD := hD0.self (sz := s.heap.size)
  generalize hAe : va_A [(h, .inr (6, [.ref st, .int (nI fx), .ref fl, .ref fn, .ref li, .int (nI le), .ref rc, .int (nI rn_), .int rb])), (st, .inr (3, [.ref kd, .ref it, .ref pa])), (pa, .inl (cI, 16, .inl fpa)), (rc, .inl (cI, 32, .inl frc))] s.heap.size = A at hD ⊢
  have hA : ∀ q : Nat, s.heap.size ≤ q → A q := fun q h => by rw [← hAe]; exact Or.inr h
  have hS : va_S A s.heap s.heap [] := va_S.rf
  have hl := lv_entry ([.ref h, .int kk, .int oo]) (n := 3) (Nat.le_of_ble_eq_true rfl)
  rw [lg_entry_eq]
  generalize (lg_sl ([.ref h, .int kk, .int oo]) ++ List.replicate (3 - (lg_sl ([.ref h, .int kk, .int oo])).length) Slot.unset).toArray = ls at hl ⊢
  have hl : lv_has ls 3 [(0, .ref h), (1, .int kk), (2, .int oo)] := hl
  refine lv_iload_n hx hb d_World_reachValue_0 rfl (lv_at hl 1 rfl) ?_
  refine lv_iconst (v := 3) hx hb d_World_reachValue_1 (by decide) ?_
  refine lv_icmp_ne hx hb d_World_reachValue_2 (tgt := 10) (by decide) (fun hc1 => ?_) (fun hc1 => ?_)
  · exact end_v hx hb hr hlocks hS (u := (rn_, rb, frc)) (at_end (hP.sub (ws' := [(h, .inr (6, [.ref st, .int (nI fx), .ref fl, .ref fn, .ref li, .int (nI le), .ref rc, .int (nI rn_), .int rb])), (st, .inr (3, [.ref kd, .ref it, .ref pa])), (pa, .inl (cI, 16, .inl fpa)), (rc, .inl (cI, 32, .inl frc))]) [0, 1, 2, 3] rfl) (hD.sub (ws' := [(h, .inr (6, [.ref st, .int (nI fx), .ref fl, .ref fn, .ref li, .int (nI le), .ref rc, .int (nI rn_), .int rb])), (st, .inr (3, [.ref kd, .ref it, .ref pa])), (pa, .inl (cI, 16, .inl fpa)), (rc, .inl (cI, 32, .inl frc))]) [0, 1, 2, 3] (by decide) rfl)) (hrch) (Nat.le_of_ble_eq_true rfl) (Nat.le_of_ble_eq_true rfl) d_World_reachValue_10
  · refine lv_aload_n hx hb d_World_reachValue_5 rfl (lv_at hl 0 rfl) ?_
    refine lv_iload_n hx hb d_World_reachValue_6 rfl (lv_at hl 2 rfl) ?_
    refine mv_v (va_runV (C := "TaleMachine$World") (As := [.int oo]) (rest := []) ⟨hx, hb, hml, hown, hts⟩ (w_reach l D cI cZ cJ h st fl fn li rc kd it pa fx le rn_ rb oo fpa frc _ (by first | assumption | omega | decide) (by first | assumption | omega | decide)) (cwV 1 hts (gInV k_448 k_449 k_450 k_3 k_451) rfl rfl rfl (by decide +kernel) ⟨Nat.le_of_ble_eq_true rfl, Nat.le_of_ble_eq_true rfl⟩) (pre_V (va_recv hK hP (q := ("TaleMachine$World", F_World, 9)) rfl (q0 := 0) rfl) (hP.sub [0, 1, 2, 3] rfl) (hK.sub [0, 1, 2] rfl) (hD.sub [0, 1, 2, 3] (by decide) rfl) hT) rfl rfl hl.1 rfl (lv_room (Nat.le_of_ble_eq_true rfl)) d_World_reachValue_7 ⟨Nat.le_of_ble_eq_true rfl, Nat.le_of_ble_eq_true rfl⟩) hP hD hS hA [0, 1, 2, 3] [] rfl rfl (by decide) (by decide) (wr := []) (wn := fun u => match u with | (rn2, rb2, g) => [(h, .inr (6, [.ref st, .int (nI fx), .ref fl, .ref fn, .ref li, .int (nI le), .ref rc, .int (nI rn2), .int rb2])), (st, .inr (3, [.ref kd, .ref it, .ref pa])), (pa, .inl (cI, 16, .inl fpa)), (rc, .inl (cI, 32, .inl g))]) (fun _ _ h9 => h9) (fun u H locs hp6 hP hD hS => ?_)
    obtain ⟨a2, a3, a4⟩ := u
    dsimp only at hp6
    have hP : va_P D cL [(h, .inr (6, [.ref st, .int (nI fx), .ref fl, .ref fn, .ref li, .int (nI le), .ref rc, .int (nI a2), .int a3])), (st, .inr (3, [.ref kd, .ref it, .ref pa])), (pa, .inl (cI, 16, .inl fpa)), (rc, .inl (cI, 32, .inl a4))] H := hP
    have hD : va_D A [(h, .inr (6, [.ref st, .int (nI fx), .ref fl, .ref fn, .ref li, .int (nI le), .ref rc, .int (nI a2), .int a3])), (st, .inr (3, [.ref kd, .ref it, .ref pa])), (pa, .inl (cI, 16, .inl fpa)), (rc, .inl (cI, 32, .inl a4))] := hD
    exact end_v hx hb hr hlocks hS (u := (a2, a3, a4)) (at_end (hP.sub (ws' := [(h, .inr (6, [.ref st, .int (nI fx), .ref fl, .ref fn, .ref li, .int (nI le), .ref rc, .int (nI a2), .int a3])), (st, .inr (3, [.ref kd, .ref it, .ref pa])), (pa, .inl (cI, 16, .inl fpa)), (rc, .inl (cI, 32, .inl a4))]) [0, 1, 2, 3] rfl) (hD.sub (ws' := [(h, .inr (6, [.ref st, .int (nI fx), .ref fl, .ref fn, .ref li, .int (nI le), .ref rc, .int (nI a2), .int a3])), (st, .inr (3, [.ref kd, .ref it, .ref pa])), (pa, .inl (cI, 16, .inl fpa)), (rc, .inl (cI, 32, .inl a4))]) [0, 1, 2, 3] (by decide) rfl)) (hp6) (Nat.le_of_ble_eq_true rfl) (Nat.le_of_ble_eq_true rfl) d_World_reachValue_10

set_option maxHeartbeats 4000000 in
set_option maxRecDepth 100000 in
theorem w_reachFrom (l : Launch) (D : va_G) (cI cZ cJ : ClassId) (h st fl fn li rc kd it pa : Nat) (fx le rn_ : Nat) (rb : Int32) (oo : Nat) (fpa frc fkd fit : Nat → Int32) (sz : Nat) (ho : oo < 32) (hfx : fx ≤ 16) (hrch : RCH frc rn_ rb) : Met l y_World_reachFrom (.code y_World_reachFrom prog_8_method_22_code 3 none :: AW) ({ frames := 4, cells := 0, slots := 0, locals := 85 }) (va_Pc [.ref h, .int (nI oo)] (pre_ D [(h, .inr (6, [.ref st, .int (nI fx), .ref fl, .ref fn, .ref li, .int (nI le), .ref rc, .int (nI rn_), .int rb])), (st, .inr (3, [.ref kd, .ref it, .ref pa])), (pa, .inl (cI, 16, .inl fpa)), (rc, .inl (cI, 32, .inl frc)), (kd, .inl (cI, 256, .inl fkd)), (it, .inl (cI, 256, .inl fit))] [(cI, .int), (cZ, .boolean), (cJ, .long)] sz)) (va_Qv (fun (u : Nat × Int32 × (Nat → Int32)) => RCH u.2.2 u.1 u.2.1) (fun u t => match u with | (rn2, rb2, g) => post_ D (va_A [(h, .inr (6, [.ref st, .int (nI fx), .ref fl, .ref fn, .ref li, .int (nI le), .ref rc, .int (nI rn_), .int rb])), (st, .inr (3, [.ref kd, .ref it, .ref pa])), (pa, .inl (cI, 16, .inl fpa)), (rc, .inl (cI, 32, .inl frc)), (kd, .inl (cI, 256, .inl fkd)), (it, .inl (cI, 256, .inl fit))] sz) [(h, .inr (6, [.ref st, .int (nI fx), .ref fl, .ref fn, .ref li, .int (nI le), .ref rc, .int (nI rn2), .int rb2])), (st, .inr (3, [.ref kd, .ref it, .ref pa])), (pa, .inl (cI, 16, .inl fpa)), (rc, .inl (cI, 32, .inl g)), (kd, .inl (cI, 256, .inl fkd)), (it, .inl (cI, 256, .inl fit))] t) (va_A [(h, .inr (6, [.ref st, .int (nI fx), .ref fl, .ref fn, .ref li, .int (nI le), .ref rc, .int (nI rn_), .int rb])), (st, .inr (3, [.ref kd, .ref it, .ref pa])), (pa, .inl (cI, 16, .inl fpa)), (rc, .inl (cI, 32, .inl frc)), (kd, .inl (cI, 256, .inl fkd)), (it, .inl (cI, 256, .inl fit))] sz)) 0 0 (va_A [(h, .inr (6, [.ref st, .int (nI fx), .ref fl, .ref fn, .ref li, .int (nI le), .ref rc, .int (nI rn_), .int rb])), (st, .inr (3, [.ref kd, .ref it, .ref pa])), (pa, .inl (cI, 16, .inl fpa)), (rc, .inl (cI, 32, .inl frc)), (kd, .inl (cI, 256, .inl fkd)), (it, .inl (cI, 256, .inl fit))] sz) := by
  refine Met.ofW (cc := prog_8_method_22_code) (maxL := 3) (ret := none) (by decide) rfl ?_
  intro p e s m args below meth c s₁ B hml hv
  obtain ⟨rfl, rfl, hP, hK, hD0, hT⟩ := hv
  have hx := B.exec
  have hb := B.bytes
  have hr := B.returns
  have hts0 := atoms_spec (ws := .code y_World_reachFrom prog_8_method_22_code 3 none :: AW) B.pre
  have hts : ∀ w ∈ AW, w.before [.ref h, .int (nI oo)].toArray s = true := fun w h => hts0 w (List.mem_cons_of_mem _ h)
  have hown : s.vm.findClass "TaleMachine$World" = some m.cls := findClass_of_methodNamed B.named
  have hlocks := B.notSynchronized
  have hD := hD0.self (sz := s.heap.size)
  generalize hAe : va_A [(h, .inr (6, [.ref st, .int (nI fx), .ref fl, .ref fn, .ref li, .int (nI le), .ref rc, .int (nI rn_), .int rb])), (st, .inr (3, [.ref kd, .ref it, .ref pa])), (pa, .inl (cI, 16, .inl fpa)), (rc, .inl (cI, 32, .inl frc)), (kd, .inl (cI, 256, .inl fkd)), (it, .inl (cI, 256, .inl fit))] s.heap.size = A at hD ⊢
  have hA : ∀ q : Nat, s.heap.size ≤ q → A q := fun q h => by rw [← hAe]; exact Or.inr h
  have hS : va_S A s.heap s.heap [] := va_S.rf
  have hl := lv_entry ([.ref h, .int (nI oo)]) (n := 3) (Nat.le_of_ble_eq_true rfl)
  rw [lg_entry_eq]
  generalize (lg_sl ([.ref h, .int (nI oo)]) ++ List.replicate (3 - (lg_sl ([.ref h, .int (nI oo)])).length) Slot.unset).toArray = ls at hl ⊢
  have hl : lv_has ls 3 [(0, .ref h), (1, .int (nI oo))] := hl
  refine lv_iload_n hx hb d_World_reachFrom_0 rfl (lv_at hl 1 rfl) ?_
  refine lv_bipush (v := 16) hx hb d_World_reachFrom_1 (by decide) ?_
  refine lv_icmp_lt hx hb d_World_reachFrom_3 (tgt := 22) (by decide) (fun hc1 => ?_) (fun hc1 => ?_)
  · have hc1N : oo < 16 := (nI_ltI (a := oo) (b := 16) (by omega) (by omega)).mp hc1
    refine lv_iconst (v := 0) hx hb d_World_reachFrom_22 (by decide) ?_
    refine lv_istore_n (lv' := [(2, .int 0), (0, .ref h), (1, .int (nI oo))]) hx hb d_World_reachFrom_23 rfl hl (by decide) rfl (fun ls hl => ?_)
    refine lp_W (I := fun k2 H locs ls => ∃ rn9 : Nat, ∃ rb9 : Int32, ∃ g9 : Nat → Int32, (RCH g9 rn9 rb9) ∧ va_P D cL [(h, .inr (6, [.ref st, .int (nI fx), .ref fl, .ref fn, .ref li, .int (nI le), .ref rc, .int (nI rn9), .int rb9])), (st, .inr (3, [.ref kd, .ref it, .ref pa])), (pa, .inl (cI, 16, .inl fpa)), (rc, .inl (cI, 32, .inl g9)), (kd, .inl (cI, 256, .inl fkd)), (it, .inl (cI, 256, .inl fit))] H ∧ va_D A [(h, .inr (6, [.ref st, .int (nI fx), .ref fl, .ref fn, .ref li, .int (nI le), .ref rc, .int (nI rn9), .int rb9])), (st, .inr (3, [.ref kd, .ref it, .ref pa])), (pa, .inl (cI, 16, .inl fpa)), (rc, .inl (cI, 32, .inl g9)), (kd, .inl (cI, 256, .inl fkd)), (it, .inl (cI, 256, .inl fit))] ∧ va_S A s.heap H locs ∧ lv_has ls 3 [(2, .int (nI k2)), (0, .ref h), (1, .int (nI oo))]) (a := 0) (b := 8) (by omega) ?_ _ _ _ ⟨_, _, _, hrch, hP, hD, hS, lv_sub hl [0, 1, 2] rfl⟩
    intro k2 H locs ls hkak2 hkbk2 hI ih3
    obtain ⟨rn9, rb9, g9, hIk2, hP, hD, hS, hl⟩ := hI
    rcases Nat.lt_or_ge k2 8 with hkk2 | hkk2
    · refine lv_iload_n hx hb d_World_reachFrom_24 rfl (lv_at hl 0 rfl) ?_
      refine lv_bipush (v := 8) hx hb d_World_reachFrom_25 (by decide) ?_
      refine lv_icmp_ge hx hb d_World_reachFrom_27 (tgt := 52) (by decide) (fun hc4 => ?_) (fun hc4 => ?_)
      · have hc4N : 8 ≤ k2 := (nI_leI (a := 8) (b := k2) (by omega) (by omega)).mp hc4
        exact absurd hc4N (by omega)
      · have hc4N : ¬ 8 ≤ k2 := fun z9 => hc4 ((nI_leI (a := 8) (b := k2) (by omega) (by omega)).mpr z9)
        refine lv_aload_n hx hb d_World_reachFrom_30 rfl (lv_at hl 1 rfl) ?_
        refine lv_aload_n hx hb d_World_reachFrom_31 rfl (lv_at hl 1 rfl) ?_
        refine lv_iload_n hx hb d_World_reachFrom_32 rfl (lv_at hl 2 rfl) ?_
        refine lv_iload_n hx hb d_World_reachFrom_33 rfl (lv_at hl 0 rfl) ?_
        refine mv_i (va_runV (C := "TaleMachine$World") (As := [.int (nI oo), .int (nI k2)]) (rest := [.ref h]) ⟨hx, hb, hml, hown, hts⟩ (w_ownKind l D cI cZ cJ h st fl fn li rc kd it pa fx le rn9 rb9 oo k2 fkd _ (by first | assumption | omega | decide) (by first | assumption | omega | decide)) (cwV 2 hts (gInV k_326 k_327 k_328 k_3 k_329) rfl rfl rfl (by decide +kernel) ⟨Nat.le_of_ble_eq_true rfl, Nat.le_of_ble_eq_true rfl⟩) (pre_V (va_recv hK hP (q := ("TaleMachine$World", F_World, 9)) rfl (q0 := 0) rfl) (hP.sub [0, 1, 4] rfl) (hK.sub [0, 1, 2] rfl) (hD.sub [0, 1, 4] (by decide) rfl) hT) rfl rfl hl.1 rfl (lv_room (Nat.le_of_ble_eq_true rfl)) d_World_reachFrom_34 ⟨Nat.le_of_ble_eq_true rfl, Nat.le_of_ble_eq_true rfl⟩) hP hD hS hA [0, 1, 4] [2, 3, 5] rfl rfl (by decide) (by decide) (wr := [(pa, .inl (cI, 16, .inl fpa)), (rc, .inl (cI, 32, .inl g9)), (it, .inl (cI, 256, .inl fit))]) (wn := fun _ => [(h, .inr (6, [.ref st, .int (nI fx), .ref fl, .ref fn, .ref li, .int (nI le), .ref rc, .int (nI rn9), .int rb9])), (st, .inr (3, [.ref kd, .ref it, .ref pa])), (kd, .inl (cI, 256, .inl fkd))]) (fun _ _ h9 => h9) (fun r5 _ H locs hp6 hP hD hS => ?_)
        have hP : va_P D cL [(pa, .inl (cI, 16, .inl fpa)), (rc, .inl (cI, 32, .inl g9)), (it, .inl (cI, 256, .inl fit)), (h, .inr (6, [.ref st, .int (nI fx), .ref fl, .ref fn, .ref li, .int (nI le), .ref rc, .int (nI rn9), .int rb9])), (st, .inr (3, [.ref kd, .ref it, .ref pa])), (kd, .inl (cI, 256, .inl fkd))] H := hP
        have hD : va_D A [(pa, .inl (cI, 16, .inl fpa)), (rc, .inl (cI, 32, .inl g9)), (it, .inl (cI, 256, .inl fit)), (h, .inr (6, [.ref st, .int (nI fx), .ref fl, .ref fn, .ref li, .int (nI le), .ref rc, .int (nI rn9), .int rb9])), (st, .inr (3, [.ref kd, .ref it, .ref pa])), (kd, .inl (cI, 256, .inl fkd))] := hD
        obtain rfl : r5 = fkd (oo * 8 + k2) := hp6
        refine lv_aload_n hx hb d_World_reachFrom_37 rfl (lv_at hl 1 rfl) ?_
        refine lv_iload_n hx hb d_World_reachFrom_38 rfl (lv_at hl 2 rfl) ?_
        refine lv_iload_n hx hb d_World_reachFrom_39 rfl (lv_at hl 0 rfl) ?_
        refine mv_i (va_runV (C := "TaleMachine$World") (As := [.int (nI oo), .int (nI k2)]) (rest := [.int (fkd (oo * 8 + k2)), .ref h]) ⟨hx, hb, hml, hown, hts⟩ (w_ownInt l D cI cZ cJ h st fl fn li rc kd it pa fx le rn9 rb9 oo k2 fit _ (by first | assumption | omega | decide) (by first | assumption | omega | decide)) (cwV 2 hts (gInV k_460 k_335 k_336 k_3 k_337) rfl rfl rfl (by decide +kernel) ⟨Nat.le_of_ble_eq_true rfl, Nat.le_of_ble_eq_true rfl⟩) (pre_V (va_recv hK hP (q := ("TaleMachine$World", F_World, 9)) rfl (q0 := 3) rfl) (hP.sub [3, 4, 2] rfl) (hK.sub [0, 1, 2] rfl) (hD.sub [3, 4, 2] (by decide) rfl) hT) rfl rfl hl.1 rfl (lv_room (Nat.le_of_ble_eq_true rfl)) d_World_reachFrom_40 ⟨Nat.le_of_ble_eq_true rfl, Nat.le_of_ble_eq_true rfl⟩) hP hD hS hA [3, 4, 2] [0, 1, 5] rfl rfl (by decide) (by decide) (wr := [(pa, .inl (cI, 16, .inl fpa)), (rc, .inl (cI, 32, .inl g9)), (kd, .inl (cI, 256, .inl fkd))]) (wn := fun _ => [(h, .inr (6, [.ref st, .int (nI fx), .ref fl, .ref fn, .ref li, .int (nI le), .ref rc, .int (nI rn9), .int rb9])), (st, .inr (3, [.ref kd, .ref it, .ref pa])), (it, .inl (cI, 256, .inl fit))]) (fun _ _ h9 => h9) (fun r7 _ H locs hp8 hP hD hS => ?_)
        have hP : va_P D cL [(pa, .inl (cI, 16, .inl fpa)), (rc, .inl (cI, 32, .inl g9)), (kd, .inl (cI, 256, .inl fkd)), (h, .inr (6, [.ref st, .int (nI fx), .ref fl, .ref fn, .ref li, .int (nI le), .ref rc, .int (nI rn9), .int rb9])), (st, .inr (3, [.ref kd, .ref it, .ref pa])), (it, .inl (cI, 256, .inl fit))] H := hP
        have hD : va_D A [(pa, .inl (cI, 16, .inl fpa)), (rc, .inl (cI, 32, .inl g9)), (kd, .inl (cI, 256, .inl fkd)), (h, .inr (6, [.ref st, .int (nI fx), .ref fl, .ref fn, .ref li, .int (nI le), .ref rc, .int (nI rn9), .int rb9])), (st, .inr (3, [.ref kd, .ref it, .ref pa])), (it, .inl (cI, 256, .inl fit))] := hD
        obtain rfl : r7 = fit (oo * 8 + k2) := hp8
        refine mv_v (va_runV (C := "TaleMachine$World") (As := [.int (fkd (oo * 8 + k2)), .int (fit (oo * 8 + k2))]) (rest := []) ⟨hx, hb, hml, hown, hts⟩ (w_reachValue l D cI cZ cJ h st fl fn li rc kd it pa fx le rn9 rb9 (fkd (oo * 8 + k2)) (fit (oo * 8 + k2)) fpa g9 _ (by first | assumption | omega | decide) hIk2) (cwV 2 hts (gInV k_461 k_445 k_446 k_3 k_447) rfl rfl rfl (by decide +kernel) ⟨Nat.le_of_ble_eq_true rfl, Nat.le_of_ble_eq_true rfl⟩) (pre_V (va_recv hK hP (q := ("TaleMachine$World", F_World, 9)) rfl (q0 := 3) rfl) (hP.sub [3, 4, 0, 1] rfl) (hK.sub [0, 1, 2] rfl) (hD.sub [3, 4, 0, 1] (by decide) rfl) hT) rfl rfl hl.1 rfl (lv_room (Nat.le_of_ble_eq_true rfl)) d_World_reachFrom_43 ⟨Nat.le_of_ble_eq_true rfl, Nat.le_of_ble_eq_true rfl⟩) hP hD hS hA [3, 4, 0, 1] [2, 5] rfl rfl (by decide) (by decide) (wr := [(kd, .inl (cI, 256, .inl fkd)), (it, .inl (cI, 256, .inl fit))]) (wn := fun u => match u with | (rn2, rb2, g) => [(h, .inr (6, [.ref st, .int (nI fx), .ref fl, .ref fn, .ref li, .int (nI le), .ref rc, .int (nI rn2), .int rb2])), (st, .inr (3, [.ref kd, .ref it, .ref pa])), (pa, .inl (cI, 16, .inl fpa)), (rc, .inl (cI, 32, .inl g))]) (fun _ _ h9 => h9) (fun u H locs hp13 hP hD hS => ?_)
        obtain ⟨a9, a10, a11⟩ := u
        dsimp only at hp13
        have hP : va_P D cL [(kd, .inl (cI, 256, .inl fkd)), (it, .inl (cI, 256, .inl fit)), (h, .inr (6, [.ref st, .int (nI fx), .ref fl, .ref fn, .ref li, .int (nI le), .ref rc, .int (nI a9), .int a10])), (st, .inr (3, [.ref kd, .ref it, .ref pa])), (pa, .inl (cI, 16, .inl fpa)), (rc, .inl (cI, 32, .inl a11))] H := hP
        have hD : va_D A [(kd, .inl (cI, 256, .inl fkd)), (it, .inl (cI, 256, .inl fit)), (h, .inr (6, [.ref st, .int (nI fx), .ref fl, .ref fn, .ref li, .int (nI le), .ref rc, .int (nI a9), .int a10])), (st, .inr (3, [.ref kd, .ref it, .ref pa])), (pa, .inl (cI, 16, .inl fpa)), (rc, .inl (cI, 32, .inl a11))] := hD
        refine lv_iinc (v := (nI (k2 + 1))) (lv' := [(2, .int (nI (k2 + 1))), (0, .ref h), (1, .int (nI oo))]) hx hb d_World_reachFrom_46 hl (k := 0) rfl (nI_1 k2) (by decide) rfl (fun ls hl => ?_)
        refine lv_goto hx hb d_World_reachFrom_49 (tgt := 24) (by decide) ?_
        exact ih3 hkk2 _ _ _ ⟨_, _, _, hp13, hP.sub (ws' := [(h, .inr (6, [.ref st, .int (nI fx), .ref fl, .ref fn, .ref li, .int (nI le), .ref rc, .int (nI a9), .int a10])), (st, .inr (3, [.ref kd, .ref it, .ref pa])), (pa, .inl (cI, 16, .inl fpa)), (rc, .inl (cI, 32, .inl a11)), (kd, .inl (cI, 256, .inl fkd)), (it, .inl (cI, 256, .inl fit))]) [2, 3, 4, 5, 0, 1] rfl, hD.sub (ws' := [(h, .inr (6, [.ref st, .int (nI fx), .ref fl, .ref fn, .ref li, .int (nI le), .ref rc, .int (nI a9), .int a10])), (st, .inr (3, [.ref kd, .ref it, .ref pa])), (pa, .inl (cI, 16, .inl fpa)), (rc, .inl (cI, 32, .inl a11)), (kd, .inl (cI, 256, .inl fkd)), (it, .inl (cI, 256, .inl fit))]) [2, 3, 4, 5, 0, 1] (by decide) rfl, hS, lv_sub hl [0, 1, 2] rfl⟩
    · have hkk2 : k2 = 8 := by omega
      refine lv_iload_n hx hb d_World_reachFrom_24 rfl (lv_at hl 0 rfl) ?_
      refine lv_bipush (v := 8) hx hb d_World_reachFrom_25 (by decide) ?_
      refine lv_icmp_ge hx hb d_World_reachFrom_27 (tgt := 52) (by decide) (fun hc14 => ?_) (fun hc14 => ?_)
      · have hc14N : 8 ≤ k2 := (nI_leI (a := 8) (b := k2) (by omega) (by omega)).mp hc14
        exact end_v hx hb hr hlocks hS (u := (rn9, rb9, g9)) (at_end (hP.sub (ws' := [(h, .inr (6, [.ref st, .int (nI fx), .ref fl, .ref fn, .ref li, .int (nI le), .ref rc, .int (nI rn9), .int rb9])), (st, .inr (3, [.ref kd, .ref it, .ref pa])), (pa, .inl (cI, 16, .inl fpa)), (rc, .inl (cI, 32, .inl g9)), (kd, .inl (cI, 256, .inl fkd)), (it, .inl (cI, 256, .inl fit))]) [0, 1, 2, 3, 4, 5] rfl) (hD.sub (ws' := [(h, .inr (6, [.ref st, .int (nI fx), .ref fl, .ref fn, .ref li, .int (nI le), .ref rc, .int (nI rn9), .int rb9])), (st, .inr (3, [.ref kd, .ref it, .ref pa])), (pa, .inl (cI, 16, .inl fpa)), (rc, .inl (cI, 32, .inl g9)), (kd, .inl (cI, 256, .inl fkd)), (it, .inl (cI, 256, .inl fit))]) [0, 1, 2, 3, 4, 5] (by decide) rfl)) (hIk2) (Nat.le_of_ble_eq_true rfl) (Nat.le_of_ble_eq_true rfl) d_World_reachFrom_52
      · have hc14N : ¬ 8 ≤ k2 := fun z9 => hc14 ((nI_leI (a := 8) (b := k2) (by omega) (by omega)).mpr z9)
        exact absurd hc14N (by omega)
  · have hc1N : ¬ oo < 16 := fun z9 => hc1 ((nI_ltI (a := oo) (b := 16) (by omega) (by omega)).mpr z9)
    refine lv_aload_n hx hb d_World_reachFrom_6 rfl (lv_at hl 0 rfl) ?_
    refine lv_aload_n hx hb d_World_reachFrom_7 rfl (lv_at hl 0 rfl) ?_
    refine va_get (D := D) (ci := 6) (v := .ref st) (C := "TaleMachine$World") (T := F_World) (N := 9) hx hb hts in_World hown hK hP 0 rfl rfl 0 (by decide) (hts _ k_60) (fun _ h9 => h9) rfl d_World_reachFrom_8 ?_
    refine va_get (D := D) (ci := 3) (v := .ref pa) (C := "TaleMachine$State") (T := F_State) (N := 3) hx hb hts in_State hown hK hP 1 rfl rfl 2 (by decide) (hts _ k_56) (fun _ h9 => h9) rfl d_World_reachFrom_11 ?_
    refine lv_iload_n hx hb d_World_reachFrom_14 rfl (lv_at hl 1 rfl) ?_
    refine lv_bipush (v := 16) hx hb d_World_reachFrom_15 (by decide) ?_
    refine lv_isub hx hb d_World_reachFrom_17 ?_
    refine lv_topi (fun z15 hz15 => ?_)
    obtain rfl : z15 = nI (oo - 16) := hz15.trans (pk_sub (a := oo) (b := 16) (by omega))
    refine ia_ld hx hb hK hP 2 0 rfl rfl (k := oo - 16) (by omega) (by first | decide | assumption) d_World_reachFrom_18 ?_
    refine mv_v (va_runV (C := "TaleMachine$World") (As := [.int (fpa (oo - 16))]) (rest := []) ⟨hx, hb, hml, hown, hts⟩ (w_reach l D cI cZ cJ h st fl fn li rc kd it pa fx le rn_ rb (fpa (oo - 16)) fpa frc _ (by first | assumption | omega | decide) hrch) (cwV 1 hts (gInV k_448 k_449 k_450 k_3 k_451) rfl rfl rfl (by decide +kernel) ⟨Nat.le_of_ble_eq_true rfl, Nat.le_of_ble_eq_true rfl⟩) (pre_V (va_recv hK hP (q := ("TaleMachine$World", F_World, 9)) rfl (q0 := 0) rfl) (hP.sub [0, 1, 2, 3] rfl) (hK.sub [0, 1, 2] rfl) (hD.sub [0, 1, 2, 3] (by decide) rfl) hT) rfl rfl hl.1 rfl (lv_room (Nat.le_of_ble_eq_true rfl)) d_World_reachFrom_19 ⟨Nat.le_of_ble_eq_true rfl, Nat.le_of_ble_eq_true rfl⟩) hP hD hS hA [0, 1, 2, 3] [4, 5] rfl rfl (by decide) (by decide) (wr := [(kd, .inl (cI, 256, .inl fkd)), (it, .inl (cI, 256, .inl fit))]) (wn := fun u => match u with | (rn2, rb2, g) => [(h, .inr (6, [.ref st, .int (nI fx), .ref fl, .ref fn, .ref li, .int (nI le), .ref rc, .int (nI rn2), .int rb2])), (st, .inr (3, [.ref kd, .ref it, .ref pa])), (pa, .inl (cI, 16, .inl fpa)), (rc, .inl (cI, 32, .inl g))]) (fun _ _ h9 => h9) (fun u H locs hp20 hP hD hS => ?_)
    obtain ⟨a16, a17, a18⟩ := u
    dsimp only at hp20
    have hP : va_P D cL [(kd, .inl (cI, 256, .inl fkd)), (it, .inl (cI, 256, .inl fit)), (h, .inr (6, [.ref st, .int (nI fx), .ref fl, .ref fn, .ref li, .int (nI le), .ref rc, .int (nI a16), .int a17])), (st, .inr (3, [.ref kd, .ref it, .ref pa])), (pa, .inl (cI, 16, .inl fpa)), (rc, .inl (cI, 32, .inl a18))] H := hP
    have hD : va_D A [(kd, .inl (cI, 256, .inl fkd)), (it, .inl (cI, 256, .inl fit)), (h, .inr (6, [.ref st, .int (nI fx), .ref fl, .ref fn, .ref li, .int (nI le), .ref rc, .int (nI a16), .int a17])), (st, .inr (3, [.ref kd, .ref it, .ref pa])), (pa, .inl (cI, 16, .inl fpa)), (rc, .inl (cI, 32, .inl a18))] := hD
    refine lv_iconst (v := 0) hx hb d_World_reachFrom_22 (by decide) ?_
    refine lv_istore_n (lv' := [(2, .int 0), (0, .ref h), (1, .int (nI oo))]) hx hb d_World_reachFrom_23 rfl hl (by decide) rfl (fun ls hl => ?_)
    refine lp_W (I := fun k21 H locs ls => ∃ rn9 : Nat, ∃ rb9 : Int32, ∃ g9 : Nat → Int32, (RCH g9 rn9 rb9) ∧ va_P D cL [(kd, .inl (cI, 256, .inl fkd)), (it, .inl (cI, 256, .inl fit)), (h, .inr (6, [.ref st, .int (nI fx), .ref fl, .ref fn, .ref li, .int (nI le), .ref rc, .int (nI rn9), .int rb9])), (st, .inr (3, [.ref kd, .ref it, .ref pa])), (pa, .inl (cI, 16, .inl fpa)), (rc, .inl (cI, 32, .inl g9))] H ∧ va_D A [(kd, .inl (cI, 256, .inl fkd)), (it, .inl (cI, 256, .inl fit)), (h, .inr (6, [.ref st, .int (nI fx), .ref fl, .ref fn, .ref li, .int (nI le), .ref rc, .int (nI rn9), .int rb9])), (st, .inr (3, [.ref kd, .ref it, .ref pa])), (pa, .inl (cI, 16, .inl fpa)), (rc, .inl (cI, 32, .inl g9))] ∧ va_S A s.heap H locs ∧ lv_has ls 3 [(2, .int (nI k21)), (0, .ref h), (1, .int (nI oo))]) (a := 0) (b := 8) (by omega) ?_ _ _ _ ⟨_, _, _, hp20, hP, hD, hS, lv_sub hl [0, 1, 2] rfl⟩
    intro k21 H locs ls hkak21 hkbk21 hI ih22
    obtain ⟨rn9, rb9, g9, hIk21, hP, hD, hS, hl⟩ := hI
    rcases Nat.lt_or_ge k21 8 with hkk21 | hkk21
    · refine lv_iload_n hx hb d_World_reachFrom_24 rfl (lv_at hl 0 rfl) ?_
      refine lv_bipush (v := 8) hx hb d_World_reachFrom_25 (by decide) ?_
      refine lv_icmp_ge hx hb d_World_reachFrom_27 (tgt := 52) (by decide) (fun hc23 => ?_) (fun hc23 => ?_)
      · have hc23N : 8 ≤ k21 := (nI_leI (a := 8) (b := k21) (by omega) (by omega)).mp hc23
        exact absurd hc23N (by omega)
      · have hc23N : ¬ 8 ≤ k21 := fun z9 => hc23 ((nI_leI (a := 8) (b := k21) (by omega) (by omega)).mpr z9)
        refine lv_aload_n hx hb d_World_reachFrom_30 rfl (lv_at hl 1 rfl) ?_
        refine lv_aload_n hx hb d_World_reachFrom_31 rfl (lv_at hl 1 rfl) ?_
        refine lv_iload_n hx hb d_World_reachFrom_32 rfl (lv_at hl 2 rfl) ?_
        refine lv_iload_n hx hb d_World_reachFrom_33 rfl (lv_at hl 0 rfl) ?_
        refine mv_i (va_runV (C := "TaleMachine$World") (As := [.int (nI oo), .int (nI k21)]) (rest := [.ref h]) ⟨hx, hb, hml, hown, hts⟩ (w_ownKind l D cI cZ cJ h st fl fn li rc kd it pa fx le rn9 rb9 oo k21 fkd _ (by first | assumption | omega | decide) (by first | assumption | omega | decide)) (cwV 2 hts (gInV k_326 k_327 k_328 k_3 k_329) rfl rfl rfl (by decide +kernel) ⟨Nat.le_of_ble_eq_true rfl, Nat.le_of_ble_eq_true rfl⟩) (pre_V (va_recv hK hP (q := ("TaleMachine$World", F_World, 9)) rfl (q0 := 2) rfl) (hP.sub [2, 3, 0] rfl) (hK.sub [0, 1, 2] rfl) (hD.sub [2, 3, 0] (by decide) rfl) hT) rfl rfl hl.1 rfl (lv_room (Nat.le_of_ble_eq_true rfl)) d_World_reachFrom_34 ⟨Nat.le_of_ble_eq_true rfl, Nat.le_of_ble_eq_true rfl⟩) hP hD hS hA [2, 3, 0] [1, 4, 5] rfl rfl (by decide) (by decide) (wr := [(it, .inl (cI, 256, .inl fit)), (pa, .inl (cI, 16, .inl fpa)), (rc, .inl (cI, 32, .inl g9))]) (wn := fun _ => [(h, .inr (6, [.ref st, .int (nI fx), .ref fl, .ref fn, .ref li, .int (nI le), .ref rc, .int (nI rn9), .int rb9])), (st, .inr (3, [.ref kd, .ref it, .ref pa])), (kd, .inl (cI, 256, .inl fkd))]) (fun _ _ h9 => h9) (fun r24 _ H locs hp25 hP hD hS => ?_)
        have hP : va_P D cL [(it, .inl (cI, 256, .inl fit)), (pa, .inl (cI, 16, .inl fpa)), (rc, .inl (cI, 32, .inl g9)), (h, .inr (6, [.ref st, .int (nI fx), .ref fl, .ref fn, .ref li, .int (nI le), .ref rc, .int (nI rn9), .int rb9])), (st, .inr (3, [.ref kd, .ref it, .ref pa])), (kd, .inl (cI, 256, .inl fkd))] H := hP
        have hD : va_D A [(it, .inl (cI, 256, .inl fit)), (pa, .inl (cI, 16, .inl fpa)), (rc, .inl (cI, 32, .inl g9)), (h, .inr (6, [.ref st, .int (nI fx), .ref fl, .ref fn, .ref li, .int (nI le), .ref rc, .int (nI rn9), .int rb9])), (st, .inr (3, [.ref kd, .ref it, .ref pa])), (kd, .inl (cI, 256, .inl fkd))] := hD
        obtain rfl : r24 = fkd (oo * 8 + k21) := hp25
        refine lv_aload_n hx hb d_World_reachFrom_37 rfl (lv_at hl 1 rfl) ?_
        refine lv_iload_n hx hb d_World_reachFrom_38 rfl (lv_at hl 2 rfl) ?_
        refine lv_iload_n hx hb d_World_reachFrom_39 rfl (lv_at hl 0 rfl) ?_
        refine mv_i (va_runV (C := "TaleMachine$World") (As := [.int (nI oo), .int (nI k21)]) (rest := [.int (fkd (oo * 8 + k21)), .ref h]) ⟨hx, hb, hml, hown, hts⟩ (w_ownInt l D cI cZ cJ h st fl fn li rc kd it pa fx le rn9 rb9 oo k21 fit _ (by first | assumption | omega | decide) (by first | assumption | omega | decide)) (cwV 2 hts (gInV k_460 k_335 k_336 k_3 k_337) rfl rfl rfl (by decide +kernel) ⟨Nat.le_of_ble_eq_true rfl, Nat.le_of_ble_eq_true rfl⟩) (pre_V (va_recv hK hP (q := ("TaleMachine$World", F_World, 9)) rfl (q0 := 3) rfl) (hP.sub [3, 4, 0] rfl) (hK.sub [0, 1, 2] rfl) (hD.sub [3, 4, 0] (by decide) rfl) hT) rfl rfl hl.1 rfl (lv_room (Nat.le_of_ble_eq_true rfl)) d_World_reachFrom_40 ⟨Nat.le_of_ble_eq_true rfl, Nat.le_of_ble_eq_true rfl⟩) hP hD hS hA [3, 4, 0] [1, 2, 5] rfl rfl (by decide) (by decide) (wr := [(pa, .inl (cI, 16, .inl fpa)), (rc, .inl (cI, 32, .inl g9)), (kd, .inl (cI, 256, .inl fkd))]) (wn := fun _ => [(h, .inr (6, [.ref st, .int (nI fx), .ref fl, .ref fn, .ref li, .int (nI le), .ref rc, .int (nI rn9), .int rb9])), (st, .inr (3, [.ref kd, .ref it, .ref pa])), (it, .inl (cI, 256, .inl fit))]) (fun _ _ h9 => h9) (fun r26 _ H locs hp27 hP hD hS => ?_)
        have hP : va_P D cL [(pa, .inl (cI, 16, .inl fpa)), (rc, .inl (cI, 32, .inl g9)), (kd, .inl (cI, 256, .inl fkd)), (h, .inr (6, [.ref st, .int (nI fx), .ref fl, .ref fn, .ref li, .int (nI le), .ref rc, .int (nI rn9), .int rb9])), (st, .inr (3, [.ref kd, .ref it, .ref pa])), (it, .inl (cI, 256, .inl fit))] H := hP
        have hD : va_D A [(pa, .inl (cI, 16, .inl fpa)), (rc, .inl (cI, 32, .inl g9)), (kd, .inl (cI, 256, .inl fkd)), (h, .inr (6, [.ref st, .int (nI fx), .ref fl, .ref fn, .ref li, .int (nI le), .ref rc, .int (nI rn9), .int rb9])), (st, .inr (3, [.ref kd, .ref it, .ref pa])), (it, .inl (cI, 256, .inl fit))] := hD
        obtain rfl : r26 = fit (oo * 8 + k21) := hp27
        refine mv_v (va_runV (C := "TaleMachine$World") (As := [.int (fkd (oo * 8 + k21)), .int (fit (oo * 8 + k21))]) (rest := []) ⟨hx, hb, hml, hown, hts⟩ (w_reachValue l D cI cZ cJ h st fl fn li rc kd it pa fx le rn9 rb9 (fkd (oo * 8 + k21)) (fit (oo * 8 + k21)) fpa g9 _ (by first | assumption | omega | decide) hIk21) (cwV 2 hts (gInV k_461 k_445 k_446 k_3 k_447) rfl rfl rfl (by decide +kernel) ⟨Nat.le_of_ble_eq_true rfl, Nat.le_of_ble_eq_true rfl⟩) (pre_V (va_recv hK hP (q := ("TaleMachine$World", F_World, 9)) rfl (q0 := 3) rfl) (hP.sub [3, 4, 0, 1] rfl) (hK.sub [0, 1, 2] rfl) (hD.sub [3, 4, 0, 1] (by decide) rfl) hT) rfl rfl hl.1 rfl (lv_room (Nat.le_of_ble_eq_true rfl)) d_World_reachFrom_43 ⟨Nat.le_of_ble_eq_true rfl, Nat.le_of_ble_eq_true rfl⟩) hP hD hS hA [3, 4, 0, 1] [2, 5] rfl rfl (by decide) (by decide) (wr := [(kd, .inl (cI, 256, .inl fkd)), (it, .inl (cI, 256, .inl fit))]) (wn := fun u => match u with | (rn2, rb2, g) => [(h, .inr (6, [.ref st, .int (nI fx), .ref fl, .ref fn, .ref li, .int (nI le), .ref rc, .int (nI rn2), .int rb2])), (st, .inr (3, [.ref kd, .ref it, .ref pa])), (pa, .inl (cI, 16, .inl fpa)), (rc, .inl (cI, 32, .inl g))]) (fun _ _ h9 => h9) (fun u H locs hp32 hP hD hS => ?_)
        obtain ⟨a28, a29, a30⟩ := u
        dsimp only at hp32
        have hP : va_P D cL [(kd, .inl (cI, 256, .inl fkd)), (it, .inl (cI, 256, .inl fit)), (h, .inr (6, [.ref st, .int (nI fx), .ref fl, .ref fn, .ref li, .int (nI le), .ref rc, .int (nI a28), .int a29])), (st, .inr (3, [.ref kd, .ref it, .ref pa])), (pa, .inl (cI, 16, .inl fpa)), (rc, .inl (cI, 32, .inl a30))] H := hP
        have hD : va_D A [(kd, .inl (cI, 256, .inl fkd)), (it, .inl (cI, 256, .inl fit)), (h, .inr (6, [.ref st, .int (nI fx), .ref fl, .ref fn, .ref li, .int (nI le), .ref rc, .int (nI a28), .int a29])), (st, .inr (3, [.ref kd, .ref it, .ref pa])), (pa, .inl (cI, 16, .inl fpa)), (rc, .inl (cI, 32, .inl a30))] := hD
        refine lv_iinc (v := (nI (k21 + 1))) (lv' := [(2, .int (nI (k21 + 1))), (0, .ref h), (1, .int (nI oo))]) hx hb d_World_reachFrom_46 hl (k := 0) rfl (nI_1 k21) (by decide) rfl (fun ls hl => ?_)
        refine lv_goto hx hb d_World_reachFrom_49 (tgt := 24) (by decide) ?_
        exact ih22 hkk21 _ _ _ ⟨_, _, _, hp32, hP, hD, hS, lv_sub hl [0, 1, 2] rfl⟩
    · have hkk21 : k21 = 8 := by omega
      refine lv_iload_n hx hb d_World_reachFrom_24 rfl (lv_at hl 0 rfl) ?_
      refine lv_bipush (v := 8) hx hb d_World_reachFrom_25 (by decide) ?_
      refine lv_icmp_ge hx hb d_World_reachFrom_27 (tgt := 52) (by decide) (fun hc33 => ?_) (fun hc33 => ?_)
      · have hc33N : 8 ≤ k21 := (nI_leI (a := 8) (b := k21) (by omega) (by omega)).mp hc33
        exact end_v hx hb hr hlocks hS (u := (rn9, rb9, g9)) (at_end (hP.sub (ws' := [(h, .inr (6, [.ref st, .int (nI fx), .ref fl, .ref fn, .ref li, .int (nI le), .ref rc, .int (nI rn9), .int rb9])), (st, .inr (3, [.ref kd, .ref it, .ref pa])), (pa, .inl (cI, 16, .inl fpa)), (rc, .inl (cI, 32, .inl g9)), (kd, .inl (cI, 256, .inl fkd)), (it, .inl (cI, 256, .inl fit))]) [2, 3, 4, 5, 0, 1] rfl) (hD.sub (ws' := [(h, .inr (6, [.ref st, .int (nI fx), .ref fl, .ref fn, .ref li, .int (nI le), .ref rc, .int (nI rn9), .int rb9])), (st, .inr (3, [.ref kd, .ref it, .ref pa])), (pa, .inl (cI, 16, .inl fpa)), (rc, .inl (cI, 32, .inl g9)), (kd, .inl (cI, 256, .inl fkd)), (it, .inl (cI, 256, .inl fit))]) [2, 3, 4, 5, 0, 1] (by decide) rfl)) (hIk21) (Nat.le_of_ble_eq_true rfl) (Nat.le_of_ble_eq_true rfl) d_World_reachFrom_52
      · have hc33N : ¬ 8 ≤ k21 := fun z9 => hc33 ((nI_leI (a := 8) (b := k21) (by omega) (by omega)).mpr z9)
        exact absurd hc33N (by omega)

set_option maxHeartbeats 4000000 in
set_option maxRecDepth 100000 in
theorem w_sweep (l : Launch) (D : va_G) (cI cZ cJ : ClassId) (h st fl fn li rc kd it pa : Nat) (fx le rn_ : Nat) (rb : Int32) (fpa frc fkd fit : Nat → Int32) (sz : Nat) (hfx : fx ≤ 16) (hrch : RCH frc rn_ rb) (hpa : PAR fpa) : Met l y_World_sweep (.code y_World_sweep prog_8_method_21_code 3 (some .int) :: AW) ({ frames := 5, cells := 0, slots := 0, locals := 107 }) (va_Pc [.ref h] (pre_ D [(h, .inr (6, [.ref st, .int (nI fx), .ref fl, .ref fn, .ref li, .int (nI le), .ref rc, .int (nI rn_), .int rb])), (st, .inr (3, [.ref kd, .ref it, .ref pa])), (pa, .inl (cI, 16, .inl fpa)), (rc, .inl (cI, 32, .inl frc)), (kd, .inl (cI, 256, .inl fkd)), (it, .inl (cI, 256, .inl fit))] [(cI, .int), (cZ, .boolean), (cJ, .long)] sz)) (va_Qi (fun (r : Int32) (u : Nat × Int32 × (Nat → Int32) × (Nat → Int32)) => RCH u.2.2.1 u.1 u.2.1 ∧ PAR u.2.2.2) (fun u t => match u with | (rn2, rb2, g, gp) => post_ D (va_A [(h, .inr (6, [.ref st, .int (nI fx), .ref fl, .ref fn, .ref li, .int (nI le), .ref rc, .int (nI rn_), .int rb])), (st, .inr (3, [.ref kd, .ref it, .ref pa])), (pa, .inl (cI, 16, .inl fpa)), (rc, .inl (cI, 32, .inl frc)), (kd, .inl (cI, 256, .inl fkd)), (it, .inl (cI, 256, .inl fit))] sz) [(h, .inr (6, [.ref st, .int (nI fx), .ref fl, .ref fn, .ref li, .int (nI le), .ref rc, .int (nI rn2), .int rb2])), (st, .inr (3, [.ref kd, .ref it, .ref pa])), (pa, .inl (cI, 16, .inl gp)), (rc, .inl (cI, 32, .inl g)), (kd, .inl (cI, 256, .inl fkd)), (it, .inl (cI, 256, .inl fit))] t) (va_A [(h, .inr (6, [.ref st, .int (nI fx), .ref fl, .ref fn, .ref li, .int (nI le), .ref rc, .int (nI rn_), .int rb])), (st, .inr (3, [.ref kd, .ref it, .ref pa])), (pa, .inl (cI, 16, .inl fpa)), (rc, .inl (cI, 32, .inl frc)), (kd, .inl (cI, 256, .inl fkd)), (it, .inl (cI, 256, .inl fit))] sz)) 0 0 (va_A [(h, .inr (6, [.ref st, .int (nI fx), .ref fl, .ref fn, .ref li, .int (nI le), .ref rc, .int (nI rn_), .int rb])), (st, .inr (3, [.ref kd, .ref it, .ref pa])), (pa, .inl (cI, 16, .inl fpa)), (rc, .inl (cI, 32, .inl frc)), (kd, .inl (cI, 256, .inl fkd)), (it, .inl (cI, 256, .inl fit))] sz) := by
  refine Met.ofW (cc := prog_8_method_21_code) (maxL := 3) (ret := (some .int)) (by decide) rfl ?_
  intro p e s m args below meth c s₁ B hml hv
  obtain ⟨rfl, rfl, hP, hK, hD0, hT⟩ := hv
  have hx := B.exec
  have hb := B.bytes
  have hr := B.returns
  have hts0 := atoms_spec (ws := .code y_World_sweep prog_8_method_21_code 3 (some .int) :: AW) B.pre
  have hts : ∀ w ∈ AW, w.before [.ref h].toArray s = true := fun w h => hts0 w (List.mem_cons_of_mem _ h)
  have hown : s.vm.findClass "TaleMachine$World" = some m.cls := findClass_of_methodNamed B.named
  have hlocks := B.notSynchronized
  have hD := hD0.self (sz := s.heap.size)
  generalize hAe : va_A [(h, .inr (6, [.ref st, .int (nI fx), .ref fl, .ref fn, .ref li, .int (nI le), .ref rc, .int (nI rn_), .int rb])), (st, .inr (3, [.ref kd, .ref it, .ref pa])), (pa, .inl (cI, 16, .inl fpa)), (rc, .inl (cI, 32, .inl frc)), (kd, .inl (cI, 256, .inl fkd)), (it, .inl (cI, 256, .inl fit))] s.heap.size = A at hD ⊢
  have hA : ∀ q : Nat, s.heap.size ≤ q → A q := fun q h => by rw [← hAe]; exact Or.inr h
  have hS : va_S A s.heap s.heap [] := va_S.rf
  have hl := lv_entry ([.ref h]) (n := 3) (Nat.le_of_ble_eq_true rfl)
  rw [lg_entry_eq]
  generalize (lg_sl ([.ref h]) ++ List.replicate (3 - (lg_sl ([.ref h])).length) Slot.unset).toArray = ls at hl ⊢
  have hl : lv_has ls 3 [(0, .ref h)] := hl
  refine lv_iconst (v := 0) hx hb d_World_sweep_0 (by decide) ?_
  refine lv_istore_n (lv' := [(1, .int 0), (0, .ref h)]) hx hb d_World_sweep_1 rfl hl (by decide) rfl (fun ls hl => ?_)
  refine lp_W (I := fun k1 H locs ls => ∃ rn9 : Nat, ∃ rb9 : Int32, ∃ g9 : Nat → Int32, (RCH g9 rn9 rb9) ∧ va_P D cL [(h, .inr (6, [.ref st, .int (nI fx), .ref fl, .ref fn, .ref li, .int (nI le), .ref rc, .int (nI rn9), .int rb9])), (st, .inr (3, [.ref kd, .ref it, .ref pa])), (pa, .inl (cI, 16, .inl fpa)), (rc, .inl (cI, 32, .inl g9)), (kd, .inl (cI, 256, .inl fkd)), (it, .inl (cI, 256, .inl fit))] H ∧ va_D A [(h, .inr (6, [.ref st, .int (nI fx), .ref fl, .ref fn, .ref li, .int (nI le), .ref rc, .int (nI rn9), .int rb9])), (st, .inr (3, [.ref kd, .ref it, .ref pa])), (pa, .inl (cI, 16, .inl fpa)), (rc, .inl (cI, 32, .inl g9)), (kd, .inl (cI, 256, .inl fkd)), (it, .inl (cI, 256, .inl fit))] ∧ va_S A s.heap H locs ∧ lv_has ls 3 [(1, .int (nI k1)), (0, .ref h)]) (a := 0) (b := fx) (by omega) ?_ _ _ _ ⟨rn_, rb, frc, hrch, hP, hD, hS, lv_sub hl [0, 1] rfl⟩
  intro k1 H locs ls hkak1 hkbk1 hI ih2
  obtain ⟨rn9, rb9, g9, hIk1, hP, hD, hS, hl⟩ := hI
  rcases Nat.lt_or_ge k1 fx with hkk1 | hkk1
  · refine lv_iload_n hx hb d_World_sweep_2 rfl (lv_at hl 0 rfl) ?_
    refine lv_aload_n hx hb d_World_sweep_3 rfl (lv_at hl 1 rfl) ?_
    refine va_get (D := D) (ci := 6) (v := .int (nI fx)) (C := "TaleMachine$World") (T := F_World) (N := 9) hx hb hts in_World hown hK hP 0 rfl rfl 1 (by decide) (hts _ k_62) (fun _ h9 => h9) rfl d_World_sweep_4 ?_
    refine lv_icmp_ge hx hb d_World_sweep_7 (tgt := 21) (by decide) (fun hc3 => ?_) (fun hc3 => ?_)
    · have hc3N : fx ≤ k1 := (nI_leI (a := fx) (b := k1) (by omega) (by omega)).mp hc3
      exact absurd hc3N (by omega)
    · have hc3N : ¬ fx ≤ k1 := fun z9 => hc3 ((nI_leI (a := fx) (b := k1) (by omega) (by omega)).mpr z9)
      refine lv_aload_n hx hb d_World_sweep_10 rfl (lv_at hl 1 rfl) ?_
      refine lv_iload_n hx hb d_World_sweep_11 rfl (lv_at hl 0 rfl) ?_
      refine mv_v (va_runV (C := "TaleMachine$World") (As := [.int (nI k1)]) (rest := []) ⟨hx, hb, hml, hown, hts⟩ (w_reach l D cI cZ cJ h st fl fn li rc kd it pa fx le rn9 rb9 (nI k1) fpa g9 _ (by first | assumption | omega | decide) hIk1) (cwV 1 hts (gInV k_448 k_449 k_450 k_3 k_451) rfl rfl rfl (by decide +kernel) ⟨Nat.le_of_ble_eq_true rfl, Nat.le_of_ble_eq_true rfl⟩) (pre_V (va_recv hK hP (q := ("TaleMachine$World", F_World, 9)) rfl (q0 := 0) rfl) (hP.sub [0, 1, 2, 3] rfl) (hK.sub [0, 1, 2] rfl) (hD.sub [0, 1, 2, 3] (by decide) rfl) hT) rfl rfl hl.1 rfl (lv_room (Nat.le_of_ble_eq_true rfl)) d_World_sweep_12 ⟨Nat.le_of_ble_eq_true rfl, Nat.le_of_ble_eq_true rfl⟩) hP hD hS hA [0, 1, 2, 3] [4, 5] rfl rfl (by decide) (by decide) (wr := [(kd, .inl (cI, 256, .inl fkd)), (it, .inl (cI, 256, .inl fit))]) (wn := fun u => match u with | (rn2, rb2, g) => [(h, .inr (6, [.ref st, .int (nI fx), .ref fl, .ref fn, .ref li, .int (nI le), .ref rc, .int (nI rn2), .int rb2])), (st, .inr (3, [.ref kd, .ref it, .ref pa])), (pa, .inl (cI, 16, .inl fpa)), (rc, .inl (cI, 32, .inl g))]) (fun _ _ h9 => h9) (fun u H locs hp8 hP hD hS => ?_)
      obtain ⟨a4, a5, a6⟩ := u
      dsimp only at hp8
      have hP : va_P D cL [(kd, .inl (cI, 256, .inl fkd)), (it, .inl (cI, 256, .inl fit)), (h, .inr (6, [.ref st, .int (nI fx), .ref fl, .ref fn, .ref li, .int (nI le), .ref rc, .int (nI a4), .int a5])), (st, .inr (3, [.ref kd, .ref it, .ref pa])), (pa, .inl (cI, 16, .inl fpa)), (rc, .inl (cI, 32, .inl a6))] H := hP
      have hD : va_D A [(kd, .inl (cI, 256, .inl fkd)), (it, .inl (cI, 256, .inl fit)), (h, .inr (6, [.ref st, .int (nI fx), .ref fl, .ref fn, .ref li, .int (nI le), .ref rc, .int (nI a4), .int a5])), (st, .inr (3, [.ref kd, .ref it, .ref pa])), (pa, .inl (cI, 16, .inl fpa)), (rc, .inl (cI, 32, .inl a6))] := hD
      refine lv_iinc (v := (nI (k1 + 1))) (lv' := [(1, .int (nI (k1 + 1))), (0, .ref h)]) hx hb d_World_sweep_15 hl (k := 0) rfl (nI_1 k1) (by decide) rfl (fun ls hl => ?_)
      refine lv_goto hx hb d_World_sweep_18 (tgt := 2) (by decide) ?_
      exact ih2 hkk1 _ _ _ ⟨_, _, _, hp8, hP.sub (ws' := [(h, .inr (6, [.ref st, .int (nI fx), .ref fl, .ref fn, .ref li, .int (nI le), .ref rc, .int (nI a4), .int a5])), (st, .inr (3, [.ref kd, .ref it, .ref pa])), (pa, .inl (cI, 16, .inl fpa)), (rc, .inl (cI, 32, .inl a6)), (kd, .inl (cI, 256, .inl fkd)), (it, .inl (cI, 256, .inl fit))]) [2, 3, 4, 5, 0, 1] rfl, hD.sub (ws' := [(h, .inr (6, [.ref st, .int (nI fx), .ref fl, .ref fn, .ref li, .int (nI le), .ref rc, .int (nI a4), .int a5])), (st, .inr (3, [.ref kd, .ref it, .ref pa])), (pa, .inl (cI, 16, .inl fpa)), (rc, .inl (cI, 32, .inl a6)), (kd, .inl (cI, 256, .inl fkd)), (it, .inl (cI, 256, .inl fit))]) [2, 3, 4, 5, 0, 1] (by decide) rfl, hS, lv_sub hl [0, 1] rfl⟩
  · have hkk1 : k1 = fx := by omega
    refine lv_iload_n hx hb d_World_sweep_2 rfl (lv_at hl 0 rfl) ?_
    refine lv_aload_n hx hb d_World_sweep_3 rfl (lv_at hl 1 rfl) ?_
    refine va_get (D := D) (ci := 6) (v := .int (nI fx)) (C := "TaleMachine$World") (T := F_World) (N := 9) hx hb hts in_World hown hK hP 0 rfl rfl 1 (by decide) (hts _ k_62) (fun _ h9 => h9) rfl d_World_sweep_4 ?_
    refine lv_icmp_ge hx hb d_World_sweep_7 (tgt := 21) (by decide) (fun hc9 => ?_) (fun hc9 => ?_)
    · have hc9N : fx ≤ k1 := (nI_leI (a := fx) (b := k1) (by omega) (by omega)).mp hc9
      refine lv_iconst (v := 0) hx hb d_World_sweep_21 (by decide) ?_
      refine lv_istore_n (lv' := [(1, .int 0), (0, .ref h)]) hx hb d_World_sweep_22 rfl hl (by decide) rfl (fun ls hl => ?_)
      refine lp_M (I := fun n10 H locs ls => ∃ i9 : Nat, ∃ rn9 : Nat, ∃ rb9 : Int32, ∃ g9 : Nat → Int32, (RCH g9 rn9 rb9 ∧ i9 ≤ 32 ∧ n10 = 32 - i9) ∧ va_P D cL [(h, .inr (6, [.ref st, .int (nI fx), .ref fl, .ref fn, .ref li, .int (nI le), .ref rc, .int (nI rn9), .int rb9])), (st, .inr (3, [.ref kd, .ref it, .ref pa])), (pa, .inl (cI, 16, .inl fpa)), (rc, .inl (cI, 32, .inl g9)), (kd, .inl (cI, 256, .inl fkd)), (it, .inl (cI, 256, .inl fit))] H ∧ va_D A [(h, .inr (6, [.ref st, .int (nI fx), .ref fl, .ref fn, .ref li, .int (nI le), .ref rc, .int (nI rn9), .int rb9])), (st, .inr (3, [.ref kd, .ref it, .ref pa])), (pa, .inl (cI, 16, .inl fpa)), (rc, .inl (cI, 32, .inl g9)), (kd, .inl (cI, 256, .inl fkd)), (it, .inl (cI, 256, .inl fit))] ∧ va_S A s.heap H locs ∧ lv_has ls 3 [(1, .int (nI i9)), (0, .ref h)]) ?_ (32 - 0) _ _ _ ⟨0, _, _, _, ⟨hIk1, by omega, rfl⟩, hP, hD, hS, lv_sub hl [0, 1] rfl⟩
      intro n10 H locs ls hI ih11
      obtain ⟨i9, rn9, rb9, g9, hIn10, hP, hD, hS, hl⟩ := hI
      obtain ⟨hr2, hi9, hn9⟩ := hIn10
      have hrl := hr2.le
      refine lv_iload_n hx hb d_World_sweep_23 rfl (lv_at hl 0 rfl) ?_
      refine lv_aload_n hx hb d_World_sweep_24 rfl (lv_at hl 1 rfl) ?_
      refine va_get (D := D) (ci := 6) (v := .int (nI rn9)) (C := "TaleMachine$World") (T := F_World) (N := 9) hx hb hts in_World hown hK hP 0 rfl rfl 7 (by decide) (hts _ k_69) (fun _ h9 => h9) rfl d_World_sweep_25 ?_
      refine lv_icmp_ge hx hb d_World_sweep_28 (tgt := 53) (by decide) (fun hc12 => ?_) (fun hc12 => ?_)
      · have hc12N : rn9 ≤ i9 := (nI_leI (a := rn9) (b := i9) (by omega) (by omega)).mp hc12
        refine lv_iconst (v := 0) hx hb d_World_sweep_53 (by decide) ?_
        refine lv_istore_n (lv' := [(1, .int 0), (0, .ref h)]) hx hb d_World_sweep_54 rfl hl (by decide) rfl (fun ls hl => ?_)
        refine lv_bipush (v := 16) hx hb d_World_sweep_55 (by decide) ?_
        refine lv_istore_n (lv' := [(2, .int 16), (1, .int 0), (0, .ref h)]) hx hb d_World_sweep_57 rfl hl (by decide) rfl (fun ls hl => ?_)
        refine lp_W (I := fun k13 H locs ls => ∃ gn : Int32, ∃ gp9 : Nat → Int32, (PAR gp9) ∧ va_P D cL [(h, .inr (6, [.ref st, .int (nI fx), .ref fl, .ref fn, .ref li, .int (nI le), .ref rc, .int (nI rn9), .int rb9])), (st, .inr (3, [.ref kd, .ref it, .ref pa])), (pa, .inl (cI, 16, .inl gp9)), (rc, .inl (cI, 32, .inl g9)), (kd, .inl (cI, 256, .inl fkd)), (it, .inl (cI, 256, .inl fit))] H ∧ va_D A [(h, .inr (6, [.ref st, .int (nI fx), .ref fl, .ref fn, .ref li, .int (nI le), .ref rc, .int (nI rn9), .int rb9])), (st, .inr (3, [.ref kd, .ref it, .ref pa])), (pa, .inl (cI, 16, .inl gp9)), (rc, .inl (cI, 32, .inl g9)), (kd, .inl (cI, 256, .inl fkd)), (it, .inl (cI, 256, .inl fit))] ∧ va_S A s.heap H locs ∧ lv_has ls 3 [(2, .int (nI k13)), (1, .int gn), (0, .ref h)]) (a := 16) (b := 32) (by omega) ?_ _ _ _ ⟨0, _, hpa, hP, hD, hS, lv_sub hl [0, 1, 2] rfl⟩
        intro k13 H locs ls hkak13 hkbk13 hI ih14
        obtain ⟨gn, gp9, hIk13, hP, hD, hS, hl⟩ := hI
        rcases Nat.lt_or_ge k13 32 with hkk13 | hkk13
        · refine lv_iload_n hx hb d_World_sweep_58 rfl (lv_at hl 0 rfl) ?_
          refine lv_bipush (v := 32) hx hb d_World_sweep_59 (by decide) ?_
          refine lv_icmp_ge hx hb d_World_sweep_61 (tgt := 105) (by decide) (fun hc15 => ?_) (fun hc15 => ?_)
          · have hc15N : 32 ≤ k13 := (nI_leI (a := 32) (b := k13) (by omega) (by omega)).mp hc15
            exact absurd hc15N (by omega)
          · have hc15N : ¬ 32 ≤ k13 := fun z9 => hc15 ((nI_leI (a := 32) (b := k13) (by omega) (by omega)).mpr z9)
            refine lv_aload_n hx hb d_World_sweep_64 rfl (lv_at hl 2 rfl) ?_
            refine lv_iload_n hx hb d_World_sweep_65 rfl (lv_at hl 0 rfl) ?_
            refine mv_i (va_runV (C := "TaleMachine$World") (As := [.int (nI k13)]) (rest := []) ⟨hx, hb, hml, hown, hts⟩ (w_isThere l D cI cZ cJ h st fl fn li rc kd it pa fx le rn9 rb9 (nI k13) gp9 _ (by first | assumption | omega | decide)) (cwV 1 hts (gInV k_393 k_232 k_233 k_3 k_234) rfl rfl rfl (by decide +kernel) ⟨Nat.le_of_ble_eq_true rfl, Nat.le_of_ble_eq_true rfl⟩) (pre_V (va_recv hK hP (q := ("TaleMachine$World", F_World, 9)) rfl (q0 := 0) rfl) (hP.sub [0, 1, 2] rfl) (hK.sub [0, 1, 2] rfl) (hD.sub [0, 1, 2] (by decide) rfl) hT) rfl rfl hl.1 rfl (lv_room (Nat.le_of_ble_eq_true rfl)) d_World_sweep_66 ⟨Nat.le_of_ble_eq_true rfl, Nat.le_of_ble_eq_true rfl⟩) hP hD hS hA [0, 1, 2] [3, 4, 5] rfl rfl (by decide) (by decide) (wr := [(rc, .inl (cI, 32, .inl g9)), (kd, .inl (cI, 256, .inl fkd)), (it, .inl (cI, 256, .inl fit))]) (wn := fun _ => [(h, .inr (6, [.ref st, .int (nI fx), .ref fl, .ref fn, .ref li, .int (nI le), .ref rc, .int (nI rn9), .int rb9])), (st, .inr (3, [.ref kd, .ref it, .ref pa])), (pa, .inl (cI, 16, .inl gp9))]) (fun _ _ h9 => h9) (fun r16 _ H locs hp17 hP hD hS => ?_)
            have hP : va_P D cL [(rc, .inl (cI, 32, .inl g9)), (kd, .inl (cI, 256, .inl fkd)), (it, .inl (cI, 256, .inl fit)), (h, .inr (6, [.ref st, .int (nI fx), .ref fl, .ref fn, .ref li, .int (nI le), .ref rc, .int (nI rn9), .int rb9])), (st, .inr (3, [.ref kd, .ref it, .ref pa])), (pa, .inl (cI, 16, .inl gp9))] H := hP
            have hD : va_D A [(rc, .inl (cI, 32, .inl g9)), (kd, .inl (cI, 256, .inl fkd)), (it, .inl (cI, 256, .inl fit)), (h, .inr (6, [.ref st, .int (nI fx), .ref fl, .ref fn, .ref li, .int (nI le), .ref rc, .int (nI rn9), .int rb9])), (st, .inr (3, [.ref kd, .ref it, .ref pa])), (pa, .inl (cI, 16, .inl gp9))] := hD
            refine lv_if_eq hx hb d_World_sweep_69 (tgt := 99) (by decide) (fun hc18 => ?_) (fun hc18 => ?_)
            · refine lv_iinc (v := (nI (k13 + 1))) (lv' := [(2, .int (nI (k13 + 1))), (1, .int gn), (0, .ref h)]) hx hb d_World_sweep_99 hl (k := 0) rfl (nI_1 k13) (by decide) rfl (fun ls hl => ?_)
              refine lv_goto hx hb d_World_sweep_102 (tgt := 58) (by decide) ?_
              exact ih14 hkk13 _ _ _ ⟨_, _, hIk13, hP.sub (ws' := [(h, .inr (6, [.ref st, .int (nI fx), .ref fl, .ref fn, .ref li, .int (nI le), .ref rc, .int (nI rn9), .int rb9])), (st, .inr (3, [.ref kd, .ref it, .ref pa])), (pa, .inl (cI, 16, .inl gp9)), (rc, .inl (cI, 32, .inl g9)), (kd, .inl (cI, 256, .inl fkd)), (it, .inl (cI, 256, .inl fit))]) [3, 4, 5, 0, 1, 2] rfl, hD.sub (ws' := [(h, .inr (6, [.ref st, .int (nI fx), .ref fl, .ref fn, .ref li, .int (nI le), .ref rc, .int (nI rn9), .int rb9])), (st, .inr (3, [.ref kd, .ref it, .ref pa])), (pa, .inl (cI, 16, .inl gp9)), (rc, .inl (cI, 32, .inl g9)), (kd, .inl (cI, 256, .inl fkd)), (it, .inl (cI, 256, .inl fit))]) [3, 4, 5, 0, 1, 2] (by decide) rfl, hS, lv_sub hl [0, 1, 2] rfl⟩
            · refine lv_aload_n hx hb d_World_sweep_72 rfl (lv_at hl 2 rfl) ?_
              refine va_get (D := D) (ci := 6) (v := .int rb9) (C := "TaleMachine$World") (T := F_World) (N := 9) hx hb hts in_World hown hK hP 3 rfl rfl 8 (by decide) (hts _ k_70) (fun _ h9 => h9) rfl d_World_sweep_73 ?_
              refine lv_iload_n hx hb d_World_sweep_76 rfl (lv_at hl 0 rfl) ?_
              refine lv_iushr hx hb d_World_sweep_77 rfl ?_
              refine lv_iconst (v := 1) hx hb d_World_sweep_78 (by decide) ?_
              refine lv_iand hx hb d_World_sweep_79 ?_
              refine lv_if_ne hx hb d_World_sweep_80 (tgt := 99) (by decide) (fun hc19 => ?_) (fun hc19 => ?_)
              · refine lv_iinc (v := (nI (k13 + 1))) (lv' := [(2, .int (nI (k13 + 1))), (1, .int gn), (0, .ref h)]) hx hb d_World_sweep_99 hl (k := 0) rfl (nI_1 k13) (by decide) rfl (fun ls hl => ?_)
                refine lv_goto hx hb d_World_sweep_102 (tgt := 58) (by decide) ?_
                exact ih14 hkk13 _ _ _ ⟨_, _, hIk13, hP.sub (ws' := [(h, .inr (6, [.ref st, .int (nI fx), .ref fl, .ref fn, .ref li, .int (nI le), .ref rc, .int (nI rn9), .int rb9])), (st, .inr (3, [.ref kd, .ref it, .ref pa])), (pa, .inl (cI, 16, .inl gp9)), (rc, .inl (cI, 32, .inl g9)), (kd, .inl (cI, 256, .inl fkd)), (it, .inl (cI, 256, .inl fit))]) [3, 4, 5, 0, 1, 2] rfl, hD.sub (ws' := [(h, .inr (6, [.ref st, .int (nI fx), .ref fl, .ref fn, .ref li, .int (nI le), .ref rc, .int (nI rn9), .int rb9])), (st, .inr (3, [.ref kd, .ref it, .ref pa])), (pa, .inl (cI, 16, .inl gp9)), (rc, .inl (cI, 32, .inl g9)), (kd, .inl (cI, 256, .inl fkd)), (it, .inl (cI, 256, .inl fit))]) [3, 4, 5, 0, 1, 2] (by decide) rfl, hS, lv_sub hl [0, 1, 2] rfl⟩
              · refine lv_aload_n hx hb d_World_sweep_83 rfl (lv_at hl 2 rfl) ?_
                refine va_get (D := D) (ci := 6) (v := .ref st) (C := "TaleMachine$World") (T := F_World) (N := 9) hx hb hts in_World hown hK hP 3 rfl rfl 0 (by decide) (hts _ k_60) (fun _ h9 => h9) rfl d_World_sweep_84 ?_
                refine va_get (D := D) (ci := 3) (v := .ref pa) (C := "TaleMachine$State") (T := F_State) (N := 3) hx hb hts in_State hown hK hP 4 rfl rfl 2 (by decide) (hts _ k_56) (fun _ h9 => h9) rfl d_World_sweep_87 ?_
                refine lv_iload_n hx hb d_World_sweep_90 rfl (lv_at hl 0 rfl) ?_
                refine lv_bipush (v := 16) hx hb d_World_sweep_91 (by decide) ?_
                refine lv_isub hx hb d_World_sweep_93 ?_
                refine lv_topi (fun z20 hz20 => ?_)
                obtain rfl : z20 = nI (k13 - 16) := hz20.trans (pk_sub (a := k13) (b := 16) (by omega))
                refine lv_iconst (v := (-1)) hx hb d_World_sweep_94 (by decide) ?_
                refine ia_st hx hb hK hP hD hS 5 0 rfl rfl (k := k13 - 16) (x := (-1)) (by omega) (by first | decide | assumption) d_World_sweep_95 (fun H locs hP hD hS => ?_)
                have hP : va_P D cL [(rc, .inl (cI, 32, .inl g9)), (kd, .inl (cI, 256, .inl fkd)), (it, .inl (cI, 256, .inl fit)), (h, .inr (6, [.ref st, .int (nI fx), .ref fl, .ref fn, .ref li, .int (nI le), .ref rc, .int (nI rn9), .int rb9])), (st, .inr (3, [.ref kd, .ref it, .ref pa])), (pa, .inl (cI, 16, .inl (upd gp9 (k13 - 16) (-1))))] H := hP
                have hD : va_D A [(rc, .inl (cI, 32, .inl g9)), (kd, .inl (cI, 256, .inl fkd)), (it, .inl (cI, 256, .inl fit)), (h, .inr (6, [.ref st, .int (nI fx), .ref fl, .ref fn, .ref li, .int (nI le), .ref rc, .int (nI rn9), .int rb9])), (st, .inr (3, [.ref kd, .ref it, .ref pa])), (pa, .inl (cI, 16, .inl (upd gp9 (k13 - 16) (-1))))] := hD
                refine lv_iinc (v := (gn + 1)) (lv' := [(1, .int (gn + 1)), (2, .int (nI k13)), (0, .ref h)]) hx hb d_World_sweep_96 hl (k := 1) rfl rfl (by decide) rfl (fun ls hl => ?_)
                refine lv_iinc (v := (nI (k13 + 1))) (lv' := [(2, .int (nI (k13 + 1))), (1, .int (gn + 1)), (0, .ref h)]) hx hb d_World_sweep_99 hl (k := 1) rfl (nI_1 k13) (by decide) rfl (fun ls hl => ?_)
                refine lv_goto hx hb d_World_sweep_102 (tgt := 58) (by decide) ?_
                exact ih14 hkk13 _ _ _ ⟨_, _, hIk13.up (Or.inl rfl), hP.sub (ws' := [(h, .inr (6, [.ref st, .int (nI fx), .ref fl, .ref fn, .ref li, .int (nI le), .ref rc, .int (nI rn9), .int rb9])), (st, .inr (3, [.ref kd, .ref it, .ref pa])), (pa, .inl (cI, 16, .inl (upd gp9 (k13 - 16) (-1)))), (rc, .inl (cI, 32, .inl g9)), (kd, .inl (cI, 256, .inl fkd)), (it, .inl (cI, 256, .inl fit))]) [3, 4, 5, 0, 1, 2] rfl, hD.sub (ws' := [(h, .inr (6, [.ref st, .int (nI fx), .ref fl, .ref fn, .ref li, .int (nI le), .ref rc, .int (nI rn9), .int rb9])), (st, .inr (3, [.ref kd, .ref it, .ref pa])), (pa, .inl (cI, 16, .inl (upd gp9 (k13 - 16) (-1)))), (rc, .inl (cI, 32, .inl g9)), (kd, .inl (cI, 256, .inl fkd)), (it, .inl (cI, 256, .inl fit))]) [3, 4, 5, 0, 1, 2] (by decide) rfl, hS, lv_sub hl [0, 1, 2] rfl⟩
        · have hkk13 : k13 = 32 := by omega
          refine lv_iload_n hx hb d_World_sweep_58 rfl (lv_at hl 0 rfl) ?_
          refine lv_bipush (v := 32) hx hb d_World_sweep_59 (by decide) ?_
          refine lv_icmp_ge hx hb d_World_sweep_61 (tgt := 105) (by decide) (fun hc21 => ?_) (fun hc21 => ?_)
          · have hc21N : 32 ≤ k13 := (nI_leI (a := 32) (b := k13) (by omega) (by omega)).mp hc21
            refine lv_iload_n hx hb d_World_sweep_105 rfl (lv_at hl 1 rfl) ?_
            exact end_i hx hb hr hlocks hS (u := (rn9, rb9, g9, gp9)) (r := gn) (at_end (hP.sub (ws' := [(h, .inr (6, [.ref st, .int (nI fx), .ref fl, .ref fn, .ref li, .int (nI le), .ref rc, .int (nI rn9), .int rb9])), (st, .inr (3, [.ref kd, .ref it, .ref pa])), (pa, .inl (cI, 16, .inl gp9)), (rc, .inl (cI, 32, .inl g9)), (kd, .inl (cI, 256, .inl fkd)), (it, .inl (cI, 256, .inl fit))]) [0, 1, 2, 3, 4, 5] rfl) (hD.sub (ws' := [(h, .inr (6, [.ref st, .int (nI fx), .ref fl, .ref fn, .ref li, .int (nI le), .ref rc, .int (nI rn9), .int rb9])), (st, .inr (3, [.ref kd, .ref it, .ref pa])), (pa, .inl (cI, 16, .inl gp9)), (rc, .inl (cI, 32, .inl g9)), (kd, .inl (cI, 256, .inl fkd)), (it, .inl (cI, 256, .inl fit))]) [0, 1, 2, 3, 4, 5] (by decide) rfl)) (⟨hr2, hIk13⟩) (Nat.le_of_ble_eq_true rfl) (Nat.le_of_ble_eq_true rfl) d_World_sweep_106
          · have hc21N : ¬ 32 ≤ k13 := fun z9 => hc21 ((nI_leI (a := 32) (b := k13) (by omega) (by omega)).mpr z9)
            exact absurd hc21N (by omega)
      · have hc12N : ¬ rn9 ≤ i9 := fun z9 => hc12 ((nI_leI (a := rn9) (b := i9) (by omega) (by omega)).mpr z9)
        obtain ⟨q9, hq9, hqe9⟩ := hr2.2 i9 (by omega)
        refine lv_iload_n hx hb d_World_sweep_31 rfl (lv_at hl 0 rfl) ?_
        refine lv_bipush (v := 32) hx hb d_World_sweep_32 (by decide) ?_
        refine lv_icmp_ge hx hb d_World_sweep_34 (tgt := 53) (by decide) (fun hc22 => ?_) (fun hc22 => ?_)
        · have hc22N : 32 ≤ i9 := (nI_leI (a := 32) (b := i9) (by omega) (by omega)).mp hc22
          refine lv_iconst (v := 0) hx hb d_World_sweep_53 (by decide) ?_
          refine lv_istore_n (lv' := [(1, .int 0), (0, .ref h)]) hx hb d_World_sweep_54 rfl hl (by decide) rfl (fun ls hl => ?_)
          refine lv_bipush (v := 16) hx hb d_World_sweep_55 (by decide) ?_
          refine lv_istore_n (lv' := [(2, .int 16), (1, .int 0), (0, .ref h)]) hx hb d_World_sweep_57 rfl hl (by decide) rfl (fun ls hl => ?_)
          refine lp_W (I := fun k23 H locs ls => ∃ gn : Int32, ∃ gp9 : Nat → Int32, (PAR gp9) ∧ va_P D cL [(h, .inr (6, [.ref st, .int (nI fx), .ref fl, .ref fn, .ref li, .int (nI le), .ref rc, .int (nI rn9), .int rb9])), (st, .inr (3, [.ref kd, .ref it, .ref pa])), (pa, .inl (cI, 16, .inl gp9)), (rc, .inl (cI, 32, .inl g9)), (kd, .inl (cI, 256, .inl fkd)), (it, .inl (cI, 256, .inl fit))] H ∧ va_D A [(h, .inr (6, [.ref st, .int (nI fx), .ref fl, .ref fn, .ref li, .int (nI le), .ref rc, .int (nI rn9), .int rb9])), (st, .inr (3, [.ref kd, .ref it, .ref pa])), (pa, .inl (cI, 16, .inl gp9)), (rc, .inl (cI, 32, .inl g9)), (kd, .inl (cI, 256, .inl fkd)), (it, .inl (cI, 256, .inl fit))] ∧ va_S A s.heap H locs ∧ lv_has ls 3 [(2, .int (nI k23)), (1, .int gn), (0, .ref h)]) (a := 16) (b := 32) (by omega) ?_ _ _ _ ⟨0, _, hpa, hP, hD, hS, lv_sub hl [0, 1, 2] rfl⟩
          intro k23 H locs ls hkak23 hkbk23 hI ih24
          obtain ⟨gn, gp9, hIk23, hP, hD, hS, hl⟩ := hI
          rcases Nat.lt_or_ge k23 32 with hkk23 | hkk23
          · refine lv_iload_n hx hb d_World_sweep_58 rfl (lv_at hl 0 rfl) ?_
            refine lv_bipush (v := 32) hx hb d_World_sweep_59 (by decide) ?_
            refine lv_icmp_ge hx hb d_World_sweep_61 (tgt := 105) (by decide) (fun hc25 => ?_) (fun hc25 => ?_)
            · have hc25N : 32 ≤ k23 := (nI_leI (a := 32) (b := k23) (by omega) (by omega)).mp hc25
              exact absurd hc25N (by omega)
            · have hc25N : ¬ 32 ≤ k23 := fun z9 => hc25 ((nI_leI (a := 32) (b := k23) (by omega) (by omega)).mpr z9)
              refine lv_aload_n hx hb d_World_sweep_64 rfl (lv_at hl 2 rfl) ?_
              refine lv_iload_n hx hb d_World_sweep_65 rfl (lv_at hl 0 rfl) ?_
              refine mv_i (va_runV (C := "TaleMachine$World") (As := [.int (nI k23)]) (rest := []) ⟨hx, hb, hml, hown, hts⟩ (w_isThere l D cI cZ cJ h st fl fn li rc kd it pa fx le rn9 rb9 (nI k23) gp9 _ (by first | assumption | omega | decide)) (cwV 1 hts (gInV k_393 k_232 k_233 k_3 k_234) rfl rfl rfl (by decide +kernel) ⟨Nat.le_of_ble_eq_true rfl, Nat.le_of_ble_eq_true rfl⟩) (pre_V (va_recv hK hP (q := ("TaleMachine$World", F_World, 9)) rfl (q0 := 0) rfl) (hP.sub [0, 1, 2] rfl) (hK.sub [0, 1, 2] rfl) (hD.sub [0, 1, 2] (by decide) rfl) hT) rfl rfl hl.1 rfl (lv_room (Nat.le_of_ble_eq_true rfl)) d_World_sweep_66 ⟨Nat.le_of_ble_eq_true rfl, Nat.le_of_ble_eq_true rfl⟩) hP hD hS hA [0, 1, 2] [3, 4, 5] rfl rfl (by decide) (by decide) (wr := [(rc, .inl (cI, 32, .inl g9)), (kd, .inl (cI, 256, .inl fkd)), (it, .inl (cI, 256, .inl fit))]) (wn := fun _ => [(h, .inr (6, [.ref st, .int (nI fx), .ref fl, .ref fn, .ref li, .int (nI le), .ref rc, .int (nI rn9), .int rb9])), (st, .inr (3, [.ref kd, .ref it, .ref pa])), (pa, .inl (cI, 16, .inl gp9))]) (fun _ _ h9 => h9) (fun r26 _ H locs hp27 hP hD hS => ?_)
              have hP : va_P D cL [(rc, .inl (cI, 32, .inl g9)), (kd, .inl (cI, 256, .inl fkd)), (it, .inl (cI, 256, .inl fit)), (h, .inr (6, [.ref st, .int (nI fx), .ref fl, .ref fn, .ref li, .int (nI le), .ref rc, .int (nI rn9), .int rb9])), (st, .inr (3, [.ref kd, .ref it, .ref pa])), (pa, .inl (cI, 16, .inl gp9))] H := hP
              have hD : va_D A [(rc, .inl (cI, 32, .inl g9)), (kd, .inl (cI, 256, .inl fkd)), (it, .inl (cI, 256, .inl fit)), (h, .inr (6, [.ref st, .int (nI fx), .ref fl, .ref fn, .ref li, .int (nI le), .ref rc, .int (nI rn9), .int rb9])), (st, .inr (3, [.ref kd, .ref it, .ref pa])), (pa, .inl (cI, 16, .inl gp9))] := hD
              refine lv_if_eq hx hb d_World_sweep_69 (tgt := 99) (by decide) (fun hc28 => ?_) (fun hc28 => ?_)
              · refine lv_iinc (v := (nI (k23 + 1))) (lv' := [(2, .int (nI (k23 + 1))), (1, .int gn), (0, .ref h)]) hx hb d_World_sweep_99 hl (k := 0) rfl (nI_1 k23) (by decide) rfl (fun ls hl => ?_)
                refine lv_goto hx hb d_World_sweep_102 (tgt := 58) (by decide) ?_
                exact ih24 hkk23 _ _ _ ⟨_, _, hIk23, hP.sub (ws' := [(h, .inr (6, [.ref st, .int (nI fx), .ref fl, .ref fn, .ref li, .int (nI le), .ref rc, .int (nI rn9), .int rb9])), (st, .inr (3, [.ref kd, .ref it, .ref pa])), (pa, .inl (cI, 16, .inl gp9)), (rc, .inl (cI, 32, .inl g9)), (kd, .inl (cI, 256, .inl fkd)), (it, .inl (cI, 256, .inl fit))]) [3, 4, 5, 0, 1, 2] rfl, hD.sub (ws' := [(h, .inr (6, [.ref st, .int (nI fx), .ref fl, .ref fn, .ref li, .int (nI le), .ref rc, .int (nI rn9), .int rb9])), (st, .inr (3, [.ref kd, .ref it, .ref pa])), (pa, .inl (cI, 16, .inl gp9)), (rc, .inl (cI, 32, .inl g9)), (kd, .inl (cI, 256, .inl fkd)), (it, .inl (cI, 256, .inl fit))]) [3, 4, 5, 0, 1, 2] (by decide) rfl, hS, lv_sub hl [0, 1, 2] rfl⟩
              · refine lv_aload_n hx hb d_World_sweep_72 rfl (lv_at hl 2 rfl) ?_
                refine va_get (D := D) (ci := 6) (v := .int rb9) (C := "TaleMachine$World") (T := F_World) (N := 9) hx hb hts in_World hown hK hP 3 rfl rfl 8 (by decide) (hts _ k_70) (fun _ h9 => h9) rfl d_World_sweep_73 ?_
                refine lv_iload_n hx hb d_World_sweep_76 rfl (lv_at hl 0 rfl) ?_
                refine lv_iushr hx hb d_World_sweep_77 rfl ?_
                refine lv_iconst (v := 1) hx hb d_World_sweep_78 (by decide) ?_
                refine lv_iand hx hb d_World_sweep_79 ?_
                refine lv_if_ne hx hb d_World_sweep_80 (tgt := 99) (by decide) (fun hc29 => ?_) (fun hc29 => ?_)
                · refine lv_iinc (v := (nI (k23 + 1))) (lv' := [(2, .int (nI (k23 + 1))), (1, .int gn), (0, .ref h)]) hx hb d_World_sweep_99 hl (k := 0) rfl (nI_1 k23) (by decide) rfl (fun ls hl => ?_)
                  refine lv_goto hx hb d_World_sweep_102 (tgt := 58) (by decide) ?_
                  exact ih24 hkk23 _ _ _ ⟨_, _, hIk23, hP.sub (ws' := [(h, .inr (6, [.ref st, .int (nI fx), .ref fl, .ref fn, .ref li, .int (nI le), .ref rc, .int (nI rn9), .int rb9])), (st, .inr (3, [.ref kd, .ref it, .ref pa])), (pa, .inl (cI, 16, .inl gp9)), (rc, .inl (cI, 32, .inl g9)), (kd, .inl (cI, 256, .inl fkd)), (it, .inl (cI, 256, .inl fit))]) [3, 4, 5, 0, 1, 2] rfl, hD.sub (ws' := [(h, .inr (6, [.ref st, .int (nI fx), .ref fl, .ref fn, .ref li, .int (nI le), .ref rc, .int (nI rn9), .int rb9])), (st, .inr (3, [.ref kd, .ref it, .ref pa])), (pa, .inl (cI, 16, .inl gp9)), (rc, .inl (cI, 32, .inl g9)), (kd, .inl (cI, 256, .inl fkd)), (it, .inl (cI, 256, .inl fit))]) [3, 4, 5, 0, 1, 2] (by decide) rfl, hS, lv_sub hl [0, 1, 2] rfl⟩
                · refine lv_aload_n hx hb d_World_sweep_83 rfl (lv_at hl 2 rfl) ?_
                  refine va_get (D := D) (ci := 6) (v := .ref st) (C := "TaleMachine$World") (T := F_World) (N := 9) hx hb hts in_World hown hK hP 3 rfl rfl 0 (by decide) (hts _ k_60) (fun _ h9 => h9) rfl d_World_sweep_84 ?_
                  refine va_get (D := D) (ci := 3) (v := .ref pa) (C := "TaleMachine$State") (T := F_State) (N := 3) hx hb hts in_State hown hK hP 4 rfl rfl 2 (by decide) (hts _ k_56) (fun _ h9 => h9) rfl d_World_sweep_87 ?_
                  refine lv_iload_n hx hb d_World_sweep_90 rfl (lv_at hl 0 rfl) ?_
                  refine lv_bipush (v := 16) hx hb d_World_sweep_91 (by decide) ?_
                  refine lv_isub hx hb d_World_sweep_93 ?_
                  refine lv_topi (fun z30 hz30 => ?_)
                  obtain rfl : z30 = nI (k23 - 16) := hz30.trans (pk_sub (a := k23) (b := 16) (by omega))
                  refine lv_iconst (v := (-1)) hx hb d_World_sweep_94 (by decide) ?_
                  refine ia_st hx hb hK hP hD hS 5 0 rfl rfl (k := k23 - 16) (x := (-1)) (by omega) (by first | decide | assumption) d_World_sweep_95 (fun H locs hP hD hS => ?_)
                  have hP : va_P D cL [(rc, .inl (cI, 32, .inl g9)), (kd, .inl (cI, 256, .inl fkd)), (it, .inl (cI, 256, .inl fit)), (h, .inr (6, [.ref st, .int (nI fx), .ref fl, .ref fn, .ref li, .int (nI le), .ref rc, .int (nI rn9), .int rb9])), (st, .inr (3, [.ref kd, .ref it, .ref pa])), (pa, .inl (cI, 16, .inl (upd gp9 (k23 - 16) (-1))))] H := hP
                  have hD : va_D A [(rc, .inl (cI, 32, .inl g9)), (kd, .inl (cI, 256, .inl fkd)), (it, .inl (cI, 256, .inl fit)), (h, .inr (6, [.ref st, .int (nI fx), .ref fl, .ref fn, .ref li, .int (nI le), .ref rc, .int (nI rn9), .int rb9])), (st, .inr (3, [.ref kd, .ref it, .ref pa])), (pa, .inl (cI, 16, .inl (upd gp9 (k23 - 16) (-1))))] := hD
                  refine lv_iinc (v := (gn + 1)) (lv' := [(1, .int (gn + 1)), (2, .int (nI k23)), (0, .ref h)]) hx hb d_World_sweep_96 hl (k := 1) rfl rfl (by decide) rfl (fun ls hl => ?_)
                  refine lv_iinc (v := (nI (k23 + 1))) (lv' := [(2, .int (nI (k23 + 1))), (1, .int (gn + 1)), (0, .ref h)]) hx hb d_World_sweep_99 hl (k := 1) rfl (nI_1 k23) (by decide) rfl (fun ls hl => ?_)
                  refine lv_goto hx hb d_World_sweep_102 (tgt := 58) (by decide) ?_
                  exact ih24 hkk23 _ _ _ ⟨_, _, hIk23.up (Or.inl rfl), hP.sub (ws' := [(h, .inr (6, [.ref st, .int (nI fx), .ref fl, .ref fn, .ref li, .int (nI le), .ref rc, .int (nI rn9), .int rb9])), (st, .inr (3, [.ref kd, .ref it, .ref pa])), (pa, .inl (cI, 16, .inl (upd gp9 (k23 - 16) (-1)))), (rc, .inl (cI, 32, .inl g9)), (kd, .inl (cI, 256, .inl fkd)), (it, .inl (cI, 256, .inl fit))]) [3, 4, 5, 0, 1, 2] rfl, hD.sub (ws' := [(h, .inr (6, [.ref st, .int (nI fx), .ref fl, .ref fn, .ref li, .int (nI le), .ref rc, .int (nI rn9), .int rb9])), (st, .inr (3, [.ref kd, .ref it, .ref pa])), (pa, .inl (cI, 16, .inl (upd gp9 (k23 - 16) (-1)))), (rc, .inl (cI, 32, .inl g9)), (kd, .inl (cI, 256, .inl fkd)), (it, .inl (cI, 256, .inl fit))]) [3, 4, 5, 0, 1, 2] (by decide) rfl, hS, lv_sub hl [0, 1, 2] rfl⟩
          · have hkk23 : k23 = 32 := by omega
            refine lv_iload_n hx hb d_World_sweep_58 rfl (lv_at hl 0 rfl) ?_
            refine lv_bipush (v := 32) hx hb d_World_sweep_59 (by decide) ?_
            refine lv_icmp_ge hx hb d_World_sweep_61 (tgt := 105) (by decide) (fun hc31 => ?_) (fun hc31 => ?_)
            · have hc31N : 32 ≤ k23 := (nI_leI (a := 32) (b := k23) (by omega) (by omega)).mp hc31
              refine lv_iload_n hx hb d_World_sweep_105 rfl (lv_at hl 1 rfl) ?_
              exact end_i hx hb hr hlocks hS (u := (rn9, rb9, g9, gp9)) (r := gn) (at_end (hP.sub (ws' := [(h, .inr (6, [.ref st, .int (nI fx), .ref fl, .ref fn, .ref li, .int (nI le), .ref rc, .int (nI rn9), .int rb9])), (st, .inr (3, [.ref kd, .ref it, .ref pa])), (pa, .inl (cI, 16, .inl gp9)), (rc, .inl (cI, 32, .inl g9)), (kd, .inl (cI, 256, .inl fkd)), (it, .inl (cI, 256, .inl fit))]) [0, 1, 2, 3, 4, 5] rfl) (hD.sub (ws' := [(h, .inr (6, [.ref st, .int (nI fx), .ref fl, .ref fn, .ref li, .int (nI le), .ref rc, .int (nI rn9), .int rb9])), (st, .inr (3, [.ref kd, .ref it, .ref pa])), (pa, .inl (cI, 16, .inl gp9)), (rc, .inl (cI, 32, .inl g9)), (kd, .inl (cI, 256, .inl fkd)), (it, .inl (cI, 256, .inl fit))]) [0, 1, 2, 3, 4, 5] (by decide) rfl)) (⟨hr2, hIk23⟩) (Nat.le_of_ble_eq_true rfl) (Nat.le_of_ble_eq_true rfl) d_World_sweep_106
            · have hc31N : ¬ 32 ≤ k23 := fun z9 => hc31 ((nI_leI (a := 32) (b := k23) (by omega) (by omega)).mpr z9)
              exact absurd hc31N (by omega)
        · have hc22N : ¬ 32 ≤ i9 := fun z9 => hc22 ((nI_leI (a := 32) (b := i9) (by omega) (by omega)).mpr z9)
          refine lv_aload_n hx hb d_World_sweep_37 rfl (lv_at hl 1 rfl) ?_
          refine lv_aload_n hx hb d_World_sweep_38 rfl (lv_at hl 1 rfl) ?_
          refine va_get (D := D) (ci := 6) (v := .ref rc) (C := "TaleMachine$World") (T := F_World) (N := 9) hx hb hts in_World hown hK hP 0 rfl rfl 6 (by decide) (hts _ k_68) (fun _ h9 => h9) rfl d_World_sweep_39 ?_
          refine lv_iload_n hx hb d_World_sweep_42 rfl (lv_at hl 0 rfl) ?_
          refine ia_ld hx hb hK hP 3 0 rfl rfl (k := i9) (by omega) (by first | decide | assumption) d_World_sweep_43 ?_
          refine lv_topi (fun z32 hz32 => ?_)
          obtain rfl : z32 = (nI q9) := hz32.trans (hqe9)
          refine mv_v (va_runV (C := "TaleMachine$World") (As := [.int (nI q9)]) (rest := []) ⟨hx, hb, hml, hown, hts⟩ (w_reachFrom l D cI cZ cJ h st fl fn li rc kd it pa fx le rn9 rb9 q9 fpa g9 fkd fit _ (by first | assumption | omega | decide) (by first | assumption | omega | decide) hr2) (cwV 1 hts (gInV k_457 k_458 k_895 k_3 k_459) rfl rfl rfl (by decide +kernel) ⟨Nat.le_of_ble_eq_true rfl, Nat.le_of_ble_eq_true rfl⟩) (pre_V (va_recv hK hP (q := ("TaleMachine$World", F_World, 9)) rfl (q0 := 0) rfl) (hP.sub [0, 1, 2, 3, 4, 5] rfl) (hK.sub [0, 1, 2] rfl) (hD.sub [0, 1, 2, 3, 4, 5] (by decide) rfl) hT) rfl rfl hl.1 rfl (lv_room (Nat.le_of_ble_eq_true rfl)) d_World_sweep_44 ⟨Nat.le_of_ble_eq_true rfl, Nat.le_of_ble_eq_true rfl⟩) hP hD hS hA [0, 1, 2, 3, 4, 5] [] rfl rfl (by decide) (by decide) (wr := []) (wn := fun u => match u with | (rn2, rb2, g) => [(h, .inr (6, [.ref st, .int (nI fx), .ref fl, .ref fn, .ref li, .int (nI le), .ref rc, .int (nI rn2), .int rb2])), (st, .inr (3, [.ref kd, .ref it, .ref pa])), (pa, .inl (cI, 16, .inl fpa)), (rc, .inl (cI, 32, .inl g)), (kd, .inl (cI, 256, .inl fkd)), (it, .inl (cI, 256, .inl fit))]) (fun _ _ h9 => h9) (fun u H locs hp37 hP hD hS => ?_)
          obtain ⟨a33, a34, a35⟩ := u
          dsimp only at hp37
          have hP : va_P D cL [(h, .inr (6, [.ref st, .int (nI fx), .ref fl, .ref fn, .ref li, .int (nI le), .ref rc, .int (nI a33), .int a34])), (st, .inr (3, [.ref kd, .ref it, .ref pa])), (pa, .inl (cI, 16, .inl fpa)), (rc, .inl (cI, 32, .inl a35)), (kd, .inl (cI, 256, .inl fkd)), (it, .inl (cI, 256, .inl fit))] H := hP
          have hD : va_D A [(h, .inr (6, [.ref st, .int (nI fx), .ref fl, .ref fn, .ref li, .int (nI le), .ref rc, .int (nI a33), .int a34])), (st, .inr (3, [.ref kd, .ref it, .ref pa])), (pa, .inl (cI, 16, .inl fpa)), (rc, .inl (cI, 32, .inl a35)), (kd, .inl (cI, 256, .inl fkd)), (it, .inl (cI, 256, .inl fit))] := hD
          refine lv_iinc (v := (nI (i9 + 1))) (lv' := [(1, .int (nI (i9 + 1))), (0, .ref h)]) hx hb d_World_sweep_47 hl (k := 0) rfl (nI_1 i9) (by decide) rfl (fun ls hl => ?_)
          refine lv_goto hx hb d_World_sweep_50 (tgt := 23) (by decide) ?_
          exact ih11 (32 - (i9 + 1)) (by omega) _ _ _ ⟨i9 + 1, _, _, _, ⟨hp37, by omega, rfl⟩, hP, hD, hS, lv_sub hl [0, 1] rfl⟩
    · have hc9N : ¬ fx ≤ k1 := fun z9 => hc9 ((nI_leI (a := fx) (b := k1) (by omega) (by omega)).mpr z9)
      exact absurd hc9N (by omega)

set_option maxHeartbeats 4000000 in
set_option maxRecDepth 100000 in
theorem w_gather (l : Launch) (D : va_G) (cI cZ cJ : ClassId) (h st fl fn li rc kd it pa : Nat) (fx le rn_ : Nat) (rb : Int32) (pp : Nat) (sn : Int32) (ffl ffn fli : Nat → Int32) (sz : Nat) (hfx : fx ≤ 16) (hp : pp < fx) (hX : FXI ffl ffn fx) (hG : GA fli le sn fx) : Met l y_World_gather (.code y_World_gather prog_8_method_9_code 6 (some .int) :: AW) ({ frames := 0, cells := 0, slots := 0, locals := 0 }) (va_Pc [.ref h, .int (nI pp), .int sn] (pre_ D [(h, .inr (6, [.ref st, .int (nI fx), .ref fl, .ref fn, .ref li, .int (nI le), .ref rc, .int (nI rn_), .int rb])), (fl, .inl (cI, 256, .inl ffl)), (fn, .inl (cI, 16, .inl ffn)), (li, .inl (cI, 32, .inl fli))] [(cI, .int), (cZ, .boolean), (cJ, .long)] sz)) (va_Qi (fun (r : Int32) (u : Nat × (Nat → Int32)) => GA u.2 u.1 r fx) (fun u t => match u with | (le2, g) => post_ D (va_A [(h, .inr (6, [.ref st, .int (nI fx), .ref fl, .ref fn, .ref li, .int (nI le), .ref rc, .int (nI rn_), .int rb])), (fl, .inl (cI, 256, .inl ffl)), (fn, .inl (cI, 16, .inl ffn)), (li, .inl (cI, 32, .inl fli))] sz) [(h, .inr (6, [.ref st, .int (nI fx), .ref fl, .ref fn, .ref li, .int (nI le2), .ref rc, .int (nI rn_), .int rb])), (fl, .inl (cI, 256, .inl ffl)), (fn, .inl (cI, 16, .inl ffn)), (li, .inl (cI, 32, .inl g))] t) (va_A [(h, .inr (6, [.ref st, .int (nI fx), .ref fl, .ref fn, .ref li, .int (nI le), .ref rc, .int (nI rn_), .int rb])), (fl, .inl (cI, 256, .inl ffl)), (fn, .inl (cI, 16, .inl ffn)), (li, .inl (cI, 32, .inl fli))] sz)) 0 0 (va_A [(h, .inr (6, [.ref st, .int (nI fx), .ref fl, .ref fn, .ref li, .int (nI le), .ref rc, .int (nI rn_), .int rb])), (fl, .inl (cI, 256, .inl ffl)), (fn, .inl (cI, 16, .inl ffn)), (li, .inl (cI, 32, .inl fli))] sz) := by
  refine Met.ofW (cc := prog_8_method_9_code) (maxL := 6) (ret := (some .int)) (by decide) rfl ?_
  intro p e s m args below meth c s₁ B hml hv
  obtain ⟨rfl, rfl, hP, hK, hD0, hT⟩ := hv
  have hx := B.exec
  have hb := B.bytes
  have hr := B.returns
  have hts0 := atoms_spec (ws := .code y_World_gather prog_8_method_9_code 6 (some .int) :: AW) B.pre
  have hts : ∀ w ∈ AW, w.before [.ref h, .int (nI pp), .int sn].toArray s = true := fun w h => hts0 w (List.mem_cons_of_mem _ h)
  have hown : s.vm.findClass "TaleMachine$World" = some m.cls := findClass_of_methodNamed B.named
  have hlocks := B.notSynchronized
  have hD := hD0.self (sz := s.heap.size)
  generalize hAe : va_A [(h, .inr (6, [.ref st, .int (nI fx), .ref fl, .ref fn, .ref li, .int (nI le), .ref rc, .int (nI rn_), .int rb])), (fl, .inl (cI, 256, .inl ffl)), (fn, .inl (cI, 16, .inl ffn)), (li, .inl (cI, 32, .inl fli))] s.heap.size = A at hD ⊢
  have hA : ∀ q : Nat, s.heap.size ≤ q → A q := fun q h => by rw [← hAe]; exact Or.inr h
  have hS : va_S A s.heap s.heap [] := va_S.rf
  have hl := lv_entry ([.ref h, .int (nI pp), .int sn]) (n := 6) (Nat.le_of_ble_eq_true rfl)
  rw [lg_entry_eq]
  generalize (lg_sl ([.ref h, .int (nI pp), .int sn]) ++ List.replicate (6 - (lg_sl ([.ref h, .int (nI pp), .int sn])).length) Slot.unset).toArray = ls at hl ⊢
  have hl : lv_has ls 6 [(0, .ref h), (1, .int (nI pp)), (2, .int sn)] := hl
  obtain ⟨m0, hm0, hme, hml⟩ := hX.2.2 pp hp
  refine lv_iload_n hx hb d_World_gather_0 rfl (lv_at hl 2 rfl) ?_
  refine lv_istore_n (lv' := [(3, .int sn), (0, .ref h), (1, .int (nI pp)), (2, .int sn)]) hx hb d_World_gather_1 rfl hl (by decide) rfl (fun ls hl => ?_)
  refine lv_aload_n hx hb d_World_gather_2 rfl (lv_at hl 1 rfl) ?_
  refine va_get (D := D) (ci := 6) (v := .ref fn) (C := "TaleMachine$World") (T := F_World) (N := 9) hx hb hts in_World hown hK hP 0 rfl rfl 3 (by decide) (hts _ k_65) (fun _ h9 => h9) rfl d_World_gather_3 ?_
  refine lv_iload_n hx hb d_World_gather_6 rfl (lv_at hl 2 rfl) ?_
  refine ia_ld hx hb hK hP 2 0 rfl rfl (k := pp) (by omega) (by first | decide | assumption) d_World_gather_7 ?_
  refine lv_topi (fun z1 hz1 => ?_)
  obtain rfl : z1 = (nI m0) := hz1.trans (hme)
  refine lv_iconst (v := 1) hx hb d_World_gather_8 (by decide) ?_
  refine lv_isub hx hb d_World_gather_9 ?_
  refine lv_istore (lv' := [(4, .int ((nI m0) - 1)), (3, .int sn), (0, .ref h), (1, .int (nI pp)), (2, .int sn)]) hx hb d_World_gather_10 hl (by decide) rfl (fun ls hl => ?_)
  refine lp_M (I := fun n2 H locs ls => ∃ x9 : Int32, ∃ m9 : Nat, ∃ le9 : Nat, ∃ sn9 : Int32, ∃ g9 : Nat → Int32, (DM x9 m9 ∧ m9 ≤ m0 ∧ GA g9 le9 sn9 fx ∧ n2 = m9) ∧ va_P D cL [(h, .inr (6, [.ref st, .int (nI fx), .ref fl, .ref fn, .ref li, .int (nI le9), .ref rc, .int (nI rn_), .int rb])), (fl, .inl (cI, 256, .inl ffl)), (fn, .inl (cI, 16, .inl ffn)), (li, .inl (cI, 32, .inl g9))] H ∧ va_D A [(h, .inr (6, [.ref st, .int (nI fx), .ref fl, .ref fn, .ref li, .int (nI le9), .ref rc, .int (nI rn_), .int rb])), (fl, .inl (cI, 256, .inl ffl)), (fn, .inl (cI, 16, .inl ffn)), (li, .inl (cI, 32, .inl g9))] ∧ va_S A s.heap H locs ∧ lv_has ls 6 [(4, .int x9), (3, .int sn9), (0, .ref h), (1, .int (nI pp)), (2, .int sn)]) ?_ (m0) _ _ _ ⟨_, m0, le, sn, fli, ⟨rfl, Nat.le_refl _, hG, rfl⟩, hP, hD, hS, lv_sub hl [0, 1, 2, 3, 4] rfl⟩
  intro n2 H locs ls hI ih3
  obtain ⟨x9, m9, le9, sn9, g9, hIn2, hP, hD, hS, hl⟩ := hI
  obtain ⟨hd1, hd1l, hg9, hd1n⟩ := hIn2
  refine lv_iload hx hb d_World_gather_12 (lv_at hl 0 rfl) ?_
  refine lv_if_lt hx hb d_World_gather_14 (tgt := 74) (by decide) (fun hc4 => ?_) (fun hc4 => ?_)
  · refine lv_iload_n hx hb d_World_gather_74 rfl (lv_at hl 1 rfl) ?_
    exact end_i hx hb hr hlocks hS (u := (le9, g9)) (r := sn9) (at_end (hP.sub (ws' := [(h, .inr (6, [.ref st, .int (nI fx), .ref fl, .ref fn, .ref li, .int (nI le9), .ref rc, .int (nI rn_), .int rb])), (fl, .inl (cI, 256, .inl ffl)), (fn, .inl (cI, 16, .inl ffn)), (li, .inl (cI, 32, .inl g9))]) [0, 1, 2, 3] rfl) (hD.sub (ws' := [(h, .inr (6, [.ref st, .int (nI fx), .ref fl, .ref fn, .ref li, .int (nI le9), .ref rc, .int (nI rn_), .int rb])), (fl, .inl (cI, 256, .inl ffl)), (fn, .inl (cI, 16, .inl ffn)), (li, .inl (cI, 32, .inl g9))]) [0, 1, 2, 3] (by decide) rfl)) (hg9) (Nat.le_of_ble_eq_true rfl) (Nat.le_of_ble_eq_true rfl) d_World_gather_75
  · obtain ⟨hm1, hxe⟩ := hd1.pos (by omega) hc4
    subst hxe
    obtain ⟨q9, hq9, hqe9⟩ := hml (m9 - 1) (by omega)
    refine lv_aload_n hx hb d_World_gather_17 rfl (lv_at hl 2 rfl) ?_
    refine va_get (D := D) (ci := 6) (v := .ref fl) (C := "TaleMachine$World") (T := F_World) (N := 9) hx hb hts in_World hown hK hP 0 rfl rfl 2 (by decide) (hts _ k_64) (fun _ h9 => h9) rfl d_World_gather_18 ?_
    refine lv_iload_n hx hb d_World_gather_21 rfl (lv_at hl 3 rfl) ?_
    refine lv_bipush (v := 16) hx hb d_World_gather_22 (by decide) ?_
    refine lv_imul hx hb d_World_gather_24 ?_
    refine lv_topi (fun z5 hz5 => ?_)
    obtain rfl : z5 = nI (pp * 16) := hz5.trans (pk_mul pp 16)
    refine lv_iload hx hb d_World_gather_25 (lv_at hl 0 rfl) ?_
    refine lv_iadd hx hb d_World_gather_27 ?_
    refine lv_topi (fun z6 hz6 => ?_)
    obtain rfl : z6 = nI ((pp * 16) + (m9 - 1)) := hz6.trans (nI_add (pp * 16) (m9 - 1))
    refine ia_ld hx hb hK hP 1 0 rfl rfl (k := (pp * 16) + (m9 - 1)) (by omega) (by first | decide | assumption) d_World_gather_28 ?_
    refine lv_topi (fun z7 hz7 => ?_)
    obtain rfl : z7 = (nI q9) := hz7.trans (hqe9)
    refine lv_istore (lv' := [(5, .int (nI q9)), (4, .int (nI (m9 - 1))), (3, .int sn9), (0, .ref h), (1, .int (nI pp)), (2, .int sn)]) hx hb d_World_gather_29 hl (by decide) rfl (fun ls hl => ?_)
    refine lv_iload_n hx hb d_World_gather_31 rfl (lv_at hl 2 rfl) ?_
    refine lv_iload hx hb d_World_gather_32 (lv_at hl 0 rfl) ?_
    refine lv_iushr hx hb d_World_gather_34 rfl ?_
    refine lv_iconst (v := 1) hx hb d_World_gather_35 (by decide) ?_
    refine lv_iand hx hb d_World_gather_36 ?_
    refine lv_if_ne hx hb d_World_gather_37 (tgt := 68) (by decide) (fun hc8 => ?_) (fun hc8 => ?_)
    · refine lv_iinc (v := ((nI (m9 - 1)) + (-1))) (lv' := [(4, .int ((nI (m9 - 1)) + (-1))), (5, .int (nI q9)), (3, .int sn9), (0, .ref h), (1, .int (nI pp)), (2, .int sn)]) hx hb d_World_gather_68 hl (k := 1) rfl rfl (by decide) rfl (fun ls hl => ?_)
      refine lv_goto hx hb d_World_gather_71 (tgt := 12) (by decide) ?_
      exact ih3 (m9 - 1) (by omega) _ _ _ ⟨_, m9 - 1, le9, _, _, ⟨DM.dec hm1, by omega, hg9, rfl⟩, hP, hD, hS, lv_sub hl [0, 2, 3, 4, 5] rfl⟩
    · have hadd := hg9.add hfx (by omega) ((b_utest (by omega)).mp hc8)
      have hl32 := hadd.1
      refine lv_iload_n hx hb d_World_gather_40 rfl (lv_at hl 2 rfl) ?_
      refine lv_iconst (v := 1) hx hb d_World_gather_41 (by decide) ?_
      refine lv_iload hx hb d_World_gather_42 (lv_at hl 0 rfl) ?_
      refine lv_ishl hx hb d_World_gather_44 ?_
      refine lv_ior hx hb d_World_gather_45 ?_
      refine lv_istore_n (lv' := [(3, .int (sn9 ||| (1 <<< ((nI q9) &&& 31)))), (5, .int (nI q9)), (4, .int (nI (m9 - 1))), (0, .ref h), (1, .int (nI pp)), (2, .int sn)]) hx hb d_World_gather_46 rfl hl (by decide) rfl (fun ls hl => ?_)
      refine lv_aload_n hx hb d_World_gather_47 rfl (lv_at hl 3 rfl) ?_
      refine va_get (D := D) (ci := 6) (v := .ref li) (C := "TaleMachine$World") (T := F_World) (N := 9) hx hb hts in_World hown hK hP 0 rfl rfl 4 (by decide) (hts _ k_66) (fun _ h9 => h9) rfl d_World_gather_48 ?_
      refine lv_aload_n hx hb d_World_gather_51 rfl (lv_at hl 3 rfl) ?_
      refine va_get (D := D) (ci := 6) (v := .int (nI le9)) (C := "TaleMachine$World") (T := F_World) (N := 9) hx hb hts in_World hown hK hP 0 rfl rfl 5 (by decide) (hts _ k_67) (fun _ h9 => h9) rfl d_World_gather_52 ?_
      refine lv_iload hx hb d_World_gather_55 (lv_at hl 1 rfl) ?_
      refine ia_st hx hb hK hP hD hS 3 0 rfl rfl (k := le9) (x := (nI q9)) (by omega) (by first | decide | assumption) d_World_gather_57 (fun H locs hP hD hS => ?_)
      have hP : va_P D cL [(h, .inr (6, [.ref st, .int (nI fx), .ref fl, .ref fn, .ref li, .int (nI le9), .ref rc, .int (nI rn_), .int rb])), (fl, .inl (cI, 256, .inl ffl)), (fn, .inl (cI, 16, .inl ffn)), (li, .inl (cI, 32, .inl (upd g9 le9 (nI q9))))] H := hP
      have hD : va_D A [(h, .inr (6, [.ref st, .int (nI fx), .ref fl, .ref fn, .ref li, .int (nI le9), .ref rc, .int (nI rn_), .int rb])), (fl, .inl (cI, 256, .inl ffl)), (fn, .inl (cI, 16, .inl ffn)), (li, .inl (cI, 32, .inl (upd g9 le9 (nI q9))))] := hD
      refine lv_aload_n hx hb d_World_gather_58 rfl (lv_at hl 3 rfl) ?_
      refine lv_dup hx hb d_World_gather_59 rfl ?_
      refine va_get (D := D) (ci := 6) (v := .int (nI le9)) (C := "TaleMachine$World") (T := F_World) (N := 9) hx hb hts in_World hown hK hP 0 rfl rfl 5 (by decide) (hts _ k_67) (fun _ h9 => h9) rfl d_World_gather_60 ?_
      refine lv_iconst (v := 1) hx hb d_World_gather_63 (by decide) ?_
      refine lv_iadd hx hb d_World_gather_64 ?_
      refine lv_topi (fun z9 hz9 => ?_)
      obtain rfl : z9 = nI (le9 + 1) := hz9.trans (nI_add le9 1)
      refine va_put (D := D) (ci := 6) (v := .int (nI (le9 + 1))) (ty := .int) (C := "TaleMachine$World") (T := F_World) (N := 9) hx hb hts in_World t_World t_World_ok n_World hown hK hP hD hS 0 rfl rfl 5 (by decide) (hts _ k_67) (fun _ h9 => h9) rfl (by decide +kernel) rfl rfl (Nat.le_of_ble_eq_true rfl) d_World_gather_65 (fun H locs hP hD hS => ?_)
      have hP : va_P D cL [(h, .inr (6, [.ref st, .int (nI fx), .ref fl, .ref fn, .ref li, .int (nI (le9 + 1)), .ref rc, .int (nI rn_), .int rb])), (fl, .inl (cI, 256, .inl ffl)), (fn, .inl (cI, 16, .inl ffn)), (li, .inl (cI, 32, .inl (upd g9 le9 (nI q9))))] H := hP
      have hD : va_D A [(h, .inr (6, [.ref st, .int (nI fx), .ref fl, .ref fn, .ref li, .int (nI (le9 + 1)), .ref rc, .int (nI rn_), .int rb])), (fl, .inl (cI, 256, .inl ffl)), (fn, .inl (cI, 16, .inl ffn)), (li, .inl (cI, 32, .inl (upd g9 le9 (nI q9))))] := hD
      refine lv_iinc (v := ((nI (m9 - 1)) + (-1))) (lv' := [(4, .int ((nI (m9 - 1)) + (-1))), (3, .int (sn9 ||| (1 <<< ((nI q9) &&& 31)))), (5, .int (nI q9)), (0, .ref h), (1, .int (nI pp)), (2, .int sn)]) hx hb d_World_gather_68 hl (k := 2) rfl rfl (by decide) rfl (fun ls hl => ?_)
      refine lv_goto hx hb d_World_gather_71 (tgt := 12) (by decide) ?_
      exact ih3 (m9 - 1) (by omega) _ _ _ ⟨_, m9 - 1, le9 + 1, _, _, ⟨DM.dec hm1, by omega, hadd.2, rfl⟩, hP, hD, hS, lv_sub hl [0, 1, 3, 4, 5] rfl⟩

set_option maxHeartbeats 4000000 in
set_option maxRecDepth 100000 in
theorem w_fix_0 (l : Launch) (D : va_G) (cI cZ cJ : ClassId) (h st fl fn li rc kd it pa : Nat) (fx le rn_ : Nat) (rb : Int32) (aa ba ca : Int32) (pa1 pa2 pa3 : Nat) (ffl ffn fli : Nat → Int32) (sz : Nat) (hfx : fx < 16) (hX : FXI ffl ffn fx) : Met l y_World_fix (.code y_World_fix prog_8_method_8_code 8 (some .int) :: AW) ({ frames := 0, cells := 0, slots := 0, locals := 0 }) (va_Pc [.ref h, .int 0, .int aa, .int ba, .int ca] (pre_ D [(h, .inr (6, [.ref st, .int (nI fx), .ref fl, .ref fn, .ref li, .int (nI le), .ref rc, .int (nI rn_), .int rb])), (fl, .inl (cI, 256, .inl ffl)), (fn, .inl (cI, 16, .inl ffn)), (li, .inl (cI, 32, .inl fli))] [(cI, .int), (cZ, .boolean), (cJ, .long)] sz)) (va_Qi (fun (r : Int32) (u : Nat × (Nat → Int32) × (Nat → Int32) × (Nat → Int32)) => FXI u.2.2.1 u.2.2.2 (fx + 1)) (fun u t => match u with | (le2, g, gl, gn) => post_ D (va_A [(h, .inr (6, [.ref st, .int (nI fx), .ref fl, .ref fn, .ref li, .int (nI le), .ref rc, .int (nI rn_), .int rb])), (fl, .inl (cI, 256, .inl ffl)), (fn, .inl (cI, 16, .inl ffn)), (li, .inl (cI, 32, .inl fli))] sz) [(h, .inr (6, [.ref st, .int (nI (fx + 1)), .ref fl, .ref fn, .ref li, .int (nI le2), .ref rc, .int (nI rn_), .int rb])), (fl, .inl (cI, 256, .inl gl)), (fn, .inl (cI, 16, .inl gn)), (li, .inl (cI, 32, .inl g))] t) (va_A [(h, .inr (6, [.ref st, .int (nI fx), .ref fl, .ref fn, .ref li, .int (nI le), .ref rc, .int (nI rn_), .int rb])), (fl, .inl (cI, 256, .inl ffl)), (fn, .inl (cI, 16, .inl ffn)), (li, .inl (cI, 32, .inl fli))] sz)) 0 0 (va_A [(h, .inr (6, [.ref st, .int (nI fx), .ref fl, .ref fn, .ref li, .int (nI le), .ref rc, .int (nI rn_), .int rb])), (fl, .inl (cI, 256, .inl ffl)), (fn, .inl (cI, 16, .inl ffn)), (li, .inl (cI, 32, .inl fli))] sz) := by
  refine Met.ofW (cc := prog_8_method_8_code) (maxL := 8) (ret := (some .int)) (by decide) rfl ?_
  intro p e s m args below meth c s₁ B hml hv
  obtain ⟨rfl, rfl, hP, hK, hD0, hT⟩ := hv
  have hx := B.exec
  have hb := B.bytes
  have hr := B.returns
  have hts0 := atoms_spec (ws := .code y_World_fix prog_8_method_8_code 8 (some .int) :: AW) B.pre
  have hts : ∀ w ∈ AW, w.before [.ref h, .int 0, .int aa, .int ba, .int ca].toArray s = true := fun w h => hts0 w (List.mem_cons_of_mem _ h)
  have hown : s.vm.findClass "TaleMachine$World" = some m.cls := findClass_of_methodNamed B.named
  have hlocks := B.notSynchronized
  have hD := hD0.self (sz := s.heap.size)
  generalize hAe : va_A [(h, .inr (6, [.ref st, .int (nI fx), .ref fl, .ref fn, .ref li, .int (nI le), .ref rc, .int (nI rn_), .int rb])), (fl, .inl (cI, 256, .inl ffl)), (fn, .inl (cI, 16, .inl ffn)), (li, .inl (cI, 32, .inl fli))] s.heap.size = A at hD ⊢
  have hA : ∀ q : Nat, s.heap.size ≤ q → A q := fun q h => by rw [← hAe]; exact Or.inr h
  have hS : va_S A s.heap s.heap [] := va_S.rf
  have hl := lv_entry ([.ref h, .int 0, .int aa, .int ba, .int ca]) (n := 8) (Nat.le_of_ble_eq_true rfl)
  rw [lg_entry_eq]
  generalize (lg_sl ([.ref h, .int 0, .int aa, .int ba, .int ca]) ++ List.replicate (8 - (lg_sl ([.ref h, .int 0, .int aa, .int ba, .int ca])).length) Slot.unset).toArray = ls at hl ⊢
  have hl : lv_has ls 8 [(0, .ref h), (1, .int 0), (2, .int aa), (3, .int ba), (4, .int ca)] := hl
  refine lv_aload_n hx hb d_World_fix_0 rfl (lv_at hl 0 rfl) ?_
  refine lv_iconst (v := 0) hx hb d_World_fix_1 (by decide) ?_
  refine va_put (D := D) (ci := 6) (v := .int 0) (ty := .int) (C := "TaleMachine$World") (T := F_World) (N := 9) hx hb hts in_World t_World t_World_ok n_World hown hK hP hD hS 0 rfl rfl 5 (by decide) (hts _ k_67) (fun _ h9 => h9) rfl (by decide +kernel) rfl rfl (Nat.le_of_ble_eq_true rfl) d_World_fix_2 (fun H locs hP hD hS => ?_)
  have hP : va_P D cL [(h, .inr (6, [.ref st, .int (nI fx), .ref fl, .ref fn, .ref li, .int 0, .ref rc, .int (nI rn_), .int rb])), (fl, .inl (cI, 256, .inl ffl)), (fn, .inl (cI, 16, .inl ffn)), (li, .inl (cI, 32, .inl fli))] H := hP
  have hD : va_D A [(h, .inr (6, [.ref st, .int (nI fx), .ref fl, .ref fn, .ref li, .int 0, .ref rc, .int (nI rn_), .int rb])), (fl, .inl (cI, 256, .inl ffl)), (fn, .inl (cI, 16, .inl ffn)), (li, .inl (cI, 32, .inl fli))] := hD
  refine lv_iconst (v := 0) hx hb d_World_fix_5 (by decide) ?_
  refine lv_istore (lv' := [(5, .int 0), (0, .ref h), (1, .int 0), (2, .int aa), (3, .int ba), (4, .int ca)]) hx hb d_World_fix_6 hl (by decide) rfl (fun ls hl => ?_)
  refine lv_iload_n hx hb d_World_fix_8 rfl (lv_at hl 2 rfl) ?_
  refine lv_iconst (v := 1) hx hb d_World_fix_9 (by decide) ?_
  refine lv_isub hx hb d_World_fix_10 ?_
  refine lv_topi (fun z1 hz1 => ?_)
  obtain rfl : z1 = (-1) := hz1.trans (by decide)
  refine lv_istore (lv' := [(6, .int (-1)), (5, .int 0), (0, .ref h), (1, .int 0), (2, .int aa), (3, .int ba), (4, .int ca)]) hx hb d_World_fix_11 hl (by decide) rfl (fun ls hl => ?_)
  refine lv_iload hx hb d_World_fix_13 (lv_at hl 0 rfl) ?_
  refine lv_if_lt hx hb d_World_fix_15 (tgt := 53) (by decide) (fun _ => ?_) (fun hz => absurd (by decide) hz)
  have hGA := (GA.zero : GA fli 0 0 fx)
  have hGl := hGA.le
  refine lv_aload_n hx hb d_World_fix_53 rfl (lv_at hl 2 rfl) ?_
  refine va_get (D := D) (ci := 6) (v := .int (nI fx)) (C := "TaleMachine$World") (T := F_World) (N := 9) hx hb hts in_World hown hK hP 0 rfl rfl 1 (by decide) (hts _ k_62) (fun _ h9 => h9) rfl d_World_fix_54 ?_
  refine lv_bipush (v := 16) hx hb d_World_fix_57 (by decide) ?_
  refine lv_imul hx hb d_World_fix_59 ?_
  refine lv_topi (fun z2 hz2 => ?_)
  obtain rfl : z2 = nI (fx * 16) := hz2.trans (pk_mul fx 16)
  refine lv_istore (lv' := [(6, .int (nI (fx * 16))), (5, .int 0), (0, .ref h), (1, .int 0), (2, .int aa), (3, .int ba), (4, .int ca)]) hx hb d_World_fix_60 hl (by decide) rfl (fun ls hl => ?_)
  refine lv_aload_n hx hb d_World_fix_62 rfl (lv_at hl 2 rfl) ?_
  refine va_get (D := D) (ci := 6) (v := .ref fl) (C := "TaleMachine$World") (T := F_World) (N := 9) hx hb hts in_World hown hK hP 0 rfl rfl 2 (by decide) (hts _ k_64) (fun _ h9 => h9) rfl d_World_fix_63 ?_
  refine lv_iload hx hb d_World_fix_66 (lv_at hl 0 rfl) ?_
  refine lv_aload_n hx hb d_World_fix_68 rfl (lv_at hl 2 rfl) ?_
  refine va_get (D := D) (ci := 6) (v := .int (nI fx)) (C := "TaleMachine$World") (T := F_World) (N := 9) hx hb hts in_World hown hK hP 0 rfl rfl 1 (by decide) (hts _ k_62) (fun _ h9 => h9) rfl d_World_fix_69 ?_
  refine ia_st hx hb hK hP hD hS 1 0 rfl rfl (k := fx * 16) (x := (nI fx)) (by omega) (by first | decide | assumption) d_World_fix_72 (fun H locs hP hD hS => ?_)
  have hP : va_P D cL [(h, .inr (6, [.ref st, .int (nI fx), .ref fl, .ref fn, .ref li, .int 0, .ref rc, .int (nI rn_), .int rb])), (fl, .inl (cI, 256, .inl (upd ffl (fx * 16) (nI fx)))), (fn, .inl (cI, 16, .inl ffn)), (li, .inl (cI, 32, .inl fli))] H := hP
  have hD : va_D A [(h, .inr (6, [.ref st, .int (nI fx), .ref fl, .ref fn, .ref li, .int 0, .ref rc, .int (nI rn_), .int rb])), (fl, .inl (cI, 256, .inl (upd ffl (fx * 16) (nI fx)))), (fn, .inl (cI, 16, .inl ffn)), (li, .inl (cI, 32, .inl fli))] := hD
  refine lv_iconst (v := 0) hx hb d_World_fix_73 (by decide) ?_
  refine lv_istore (lv' := [(7, .int 0), (6, .int (nI (fx * 16))), (5, .int 0), (0, .ref h), (1, .int 0), (2, .int aa), (3, .int ba), (4, .int ca)]) hx hb d_World_fix_74 hl (by decide) rfl (fun ls hl => ?_)
  refine lv_iload hx hb d_World_fix_76 (lv_at hl 0 rfl) ?_
  refine lv_aload_n hx hb d_World_fix_78 rfl (lv_at hl 3 rfl) ?_
  refine va_get (D := D) (ci := 6) (v := .int 0) (C := "TaleMachine$World") (T := F_World) (N := 9) hx hb hts in_World hown hK hP 0 rfl rfl 5 (by decide) (hts _ k_67) (fun _ h9 => h9) rfl d_World_fix_79 ?_
  refine lv_icmp_ge hx hb d_World_fix_82 (tgt := 117) (by decide) (fun _ => ?_) (fun hz => absurd (by decide) hz)
  refine lv_aload_n hx hb d_World_fix_117 rfl (lv_at hl 3 rfl) ?_
  refine va_get (D := D) (ci := 6) (v := .ref fn) (C := "TaleMachine$World") (T := F_World) (N := 9) hx hb hts in_World hown hK hP 0 rfl rfl 3 (by decide) (hts _ k_65) (fun _ h9 => h9) rfl d_World_fix_118 ?_
  refine lv_aload_n hx hb d_World_fix_121 rfl (lv_at hl 3 rfl) ?_
  refine va_get (D := D) (ci := 6) (v := .int (nI fx)) (C := "TaleMachine$World") (T := F_World) (N := 9) hx hb hts in_World hown hK hP 0 rfl rfl 1 (by decide) (hts _ k_62) (fun _ h9 => h9) rfl d_World_fix_122 ?_
  refine lv_aload_n hx hb d_World_fix_125 rfl (lv_at hl 3 rfl) ?_
  refine va_get (D := D) (ci := 6) (v := .int 0) (C := "TaleMachine$World") (T := F_World) (N := 9) hx hb hts in_World hown hK hP 0 rfl rfl 5 (by decide) (hts _ k_67) (fun _ h9 => h9) rfl d_World_fix_126 ?_
  refine lv_iconst (v := 1) hx hb d_World_fix_129 (by decide) ?_
  refine lv_iadd hx hb d_World_fix_130 ?_
  refine lv_topi (fun z3 hz3 => ?_)
  obtain rfl : z3 = 1 := hz3.trans (by decide)
  refine ia_st hx hb hK hP hD hS 2 0 rfl rfl (k := fx) (x := 1) (by omega) (by first | decide | assumption) d_World_fix_131 (fun H locs hP hD hS => ?_)
  have hP : va_P D cL [(h, .inr (6, [.ref st, .int (nI fx), .ref fl, .ref fn, .ref li, .int 0, .ref rc, .int (nI rn_), .int rb])), (fl, .inl (cI, 256, .inl (upd ffl (fx * 16) (nI fx)))), (fn, .inl (cI, 16, .inl (upd ffn fx 1))), (li, .inl (cI, 32, .inl fli))] H := hP
  have hD : va_D A [(h, .inr (6, [.ref st, .int (nI fx), .ref fl, .ref fn, .ref li, .int 0, .ref rc, .int (nI rn_), .int rb])), (fl, .inl (cI, 256, .inl (upd ffl (fx * 16) (nI fx)))), (fn, .inl (cI, 16, .inl (upd ffn fx 1))), (li, .inl (cI, 32, .inl fli))] := hD
  refine lv_aload_n hx hb d_World_fix_132 rfl (lv_at hl 3 rfl) ?_
  refine lv_dup hx hb d_World_fix_133 rfl ?_
  refine va_get (D := D) (ci := 6) (v := .int (nI fx)) (C := "TaleMachine$World") (T := F_World) (N := 9) hx hb hts in_World hown hK hP 0 rfl rfl 1 (by decide) (hts _ k_62) (fun _ h9 => h9) rfl d_World_fix_134 ?_
  refine lv_iconst (v := 1) hx hb d_World_fix_137 (by decide) ?_
  refine lv_iadd hx hb d_World_fix_138 ?_
  refine lv_topi (fun z4 hz4 => ?_)
  obtain rfl : z4 = nI (fx + 1) := hz4.trans (nI_add fx 1)
  refine va_put (D := D) (ci := 6) (v := .int (nI (fx + 1))) (ty := .int) (C := "TaleMachine$World") (T := F_World) (N := 9) hx hb hts in_World t_World t_World_ok n_World hown hK hP hD hS 0 rfl rfl 1 (by decide) (hts _ k_62) (fun _ h9 => h9) rfl (by decide +kernel) rfl rfl (Nat.le_of_ble_eq_true rfl) d_World_fix_139 (fun H locs hP hD hS => ?_)
  have hP : va_P D cL [(h, .inr (6, [.ref st, .int (nI (fx + 1)), .ref fl, .ref fn, .ref li, .int 0, .ref rc, .int (nI rn_), .int rb])), (fl, .inl (cI, 256, .inl (upd ffl (fx * 16) (nI fx)))), (fn, .inl (cI, 16, .inl (upd ffn fx 1))), (li, .inl (cI, 32, .inl fli))] H := hP
  have hD : va_D A [(h, .inr (6, [.ref st, .int (nI (fx + 1)), .ref fl, .ref fn, .ref li, .int 0, .ref rc, .int (nI rn_), .int rb])), (fl, .inl (cI, 256, .inl (upd ffl (fx * 16) (nI fx)))), (fn, .inl (cI, 16, .inl (upd ffn fx 1))), (li, .inl (cI, 32, .inl fli))] := hD
  refine lv_aload_n hx hb d_World_fix_142 rfl (lv_at hl 3 rfl) ?_
  refine va_get (D := D) (ci := 6) (v := .int (nI (fx + 1))) (C := "TaleMachine$World") (T := F_World) (N := 9) hx hb hts in_World hown hK hP 0 rfl rfl 1 (by decide) (hts _ k_62) (fun _ h9 => h9) rfl d_World_fix_143 ?_
  refine lv_iconst (v := 1) hx hb d_World_fix_146 (by decide) ?_
  refine lv_isub hx hb d_World_fix_147 ?_
  refine lv_topi (fun z5 hz5 => ?_)
  obtain rfl : z5 = nI ((fx + 1) - 1) := hz5.trans (pk_sub (a := fx + 1) (b := 1) (by omega))
  exact end_i hx hb hr hlocks hS (u := (0, fli, upd ffl (fx * 16) (nI fx), upd ffn fx 1)) (r := (nI ((fx + 1) - 1))) (at_end (hP.sub (ws' := [(h, .inr (6, [.ref st, .int (nI (fx + 1)), .ref fl, .ref fn, .ref li, .int 0, .ref rc, .int (nI rn_), .int rb])), (fl, .inl (cI, 256, .inl (upd ffl (fx * 16) (nI fx)))), (fn, .inl (cI, 16, .inl (upd ffn fx 1))), (li, .inl (cI, 32, .inl fli))]) [0, 1, 2, 3] rfl) (hD.sub (ws' := [(h, .inr (6, [.ref st, .int (nI (fx + 1)), .ref fl, .ref fn, .ref li, .int 0, .ref rc, .int (nI rn_), .int rb])), (fl, .inl (cI, 256, .inl (upd ffl (fx * 16) (nI fx)))), (fn, .inl (cI, 16, .inl (upd ffn fx 1))), (li, .inl (cI, 32, .inl fli))]) [0, 1, 2, 3] (by decide) rfl)) (hX.new hfx (Nat.zero_le _) FXP.init) (Nat.le_of_ble_eq_true rfl) (Nat.le_of_ble_eq_true rfl) d_World_fix_148

set_option maxHeartbeats 4000000 in
set_option maxRecDepth 100000 in
theorem w_fix_1 (l : Launch) (D : va_G) (cI cZ cJ : ClassId) (h st fl fn li rc kd it pa : Nat) (fx le rn_ : Nat) (rb : Int32) (aa ba ca : Int32) (pa1 pa2 pa3 : Nat) (ffl ffn fli : Nat → Int32) (sz : Nat) (hfx : fx < 16) (hp1 : pa1 < fx) (hX : FXI ffl ffn fx) : Met l y_World_fix (.code y_World_fix prog_8_method_8_code 8 (some .int) :: AW) ({ frames := 1, cells := 0, slots := 0, locals := 25 }) (va_Pc [.ref h, .int 1, .int (nI pa1), .int ba, .int ca] (pre_ D [(h, .inr (6, [.ref st, .int (nI fx), .ref fl, .ref fn, .ref li, .int (nI le), .ref rc, .int (nI rn_), .int rb])), (fl, .inl (cI, 256, .inl ffl)), (fn, .inl (cI, 16, .inl ffn)), (li, .inl (cI, 32, .inl fli))] [(cI, .int), (cZ, .boolean), (cJ, .long)] sz)) (va_Qi (fun (r : Int32) (u : Nat × (Nat → Int32) × (Nat → Int32) × (Nat → Int32)) => FXI u.2.2.1 u.2.2.2 (fx + 1)) (fun u t => match u with | (le2, g, gl, gn) => post_ D (va_A [(h, .inr (6, [.ref st, .int (nI fx), .ref fl, .ref fn, .ref li, .int (nI le), .ref rc, .int (nI rn_), .int rb])), (fl, .inl (cI, 256, .inl ffl)), (fn, .inl (cI, 16, .inl ffn)), (li, .inl (cI, 32, .inl fli))] sz) [(h, .inr (6, [.ref st, .int (nI (fx + 1)), .ref fl, .ref fn, .ref li, .int (nI le2), .ref rc, .int (nI rn_), .int rb])), (fl, .inl (cI, 256, .inl gl)), (fn, .inl (cI, 16, .inl gn)), (li, .inl (cI, 32, .inl g))] t) (va_A [(h, .inr (6, [.ref st, .int (nI fx), .ref fl, .ref fn, .ref li, .int (nI le), .ref rc, .int (nI rn_), .int rb])), (fl, .inl (cI, 256, .inl ffl)), (fn, .inl (cI, 16, .inl ffn)), (li, .inl (cI, 32, .inl fli))] sz)) 0 0 (va_A [(h, .inr (6, [.ref st, .int (nI fx), .ref fl, .ref fn, .ref li, .int (nI le), .ref rc, .int (nI rn_), .int rb])), (fl, .inl (cI, 256, .inl ffl)), (fn, .inl (cI, 16, .inl ffn)), (li, .inl (cI, 32, .inl fli))] sz) := by
  refine Met.ofW (cc := prog_8_method_8_code) (maxL := 8) (ret := (some .int)) (by decide) rfl ?_
  intro p e s m args below meth c s₁ B hml hv
  obtain ⟨rfl, rfl, hP, hK, hD0, hT⟩ := hv
  have hx := B.exec
  have hb := B.bytes
  have hr := B.returns
  have hts0 := atoms_spec (ws := .code y_World_fix prog_8_method_8_code 8 (some .int) :: AW) B.pre
  have hts : ∀ w ∈ AW, w.before [.ref h, .int 1, .int (nI pa1), .int ba, .int ca].toArray s = true := fun w h => hts0 w (List.mem_cons_of_mem _ h)
  have hown : s.vm.findClass "TaleMachine$World" = some m.cls := findClass_of_methodNamed B.named
  have hlocks := B.notSynchronized
  have hD := hD0.self (sz := s.heap.size)
  generalize hAe : va_A [(h, .inr (6, [.ref st, .int (nI fx), .ref fl, .ref fn, .ref li, .int (nI le), .ref rc, .int (nI rn_), .int rb])), (fl, .inl (cI, 256, .inl ffl)), (fn, .inl (cI, 16, .inl ffn)), (li, .inl (cI, 32, .inl fli))] s.heap.size = A at hD ⊢
  have hA : ∀ q : Nat, s.heap.size ≤ q → A q := fun q h => by rw [← hAe]; exact Or.inr h
  have hS : va_S A s.heap s.heap [] := va_S.rf
  have hl := lv_entry ([.ref h, .int 1, .int (nI pa1), .int ba, .int ca]) (n := 8) (Nat.le_of_ble_eq_true rfl)
  rw [lg_entry_eq]
  generalize (lg_sl ([.ref h, .int 1, .int (nI pa1), .int ba, .int ca]) ++ List.replicate (8 - (lg_sl ([.ref h, .int 1, .int (nI pa1), .int ba, .int ca])).length) Slot.unset).toArray = ls at hl ⊢
  have hl : lv_has ls 8 [(0, .ref h), (1, .int 1), (2, .int (nI pa1)), (3, .int ba), (4, .int ca)] := hl
  refine lv_aload_n hx hb d_World_fix_0 rfl (lv_at hl 0 rfl) ?_
  refine lv_iconst (v := 0) hx hb d_World_fix_1 (by decide) ?_
  refine va_put (D := D) (ci := 6) (v := .int 0) (ty := .int) (C := "TaleMachine$World") (T := F_World) (N := 9) hx hb hts in_World t_World t_World_ok n_World hown hK hP hD hS 0 rfl rfl 5 (by decide) (hts _ k_67) (fun _ h9 => h9) rfl (by decide +kernel) rfl rfl (Nat.le_of_ble_eq_true rfl) d_World_fix_2 (fun H locs hP hD hS => ?_)
  have hP : va_P D cL [(h, .inr (6, [.ref st, .int (nI fx), .ref fl, .ref fn, .ref li, .int 0, .ref rc, .int (nI rn_), .int rb])), (fl, .inl (cI, 256, .inl ffl)), (fn, .inl (cI, 16, .inl ffn)), (li, .inl (cI, 32, .inl fli))] H := hP
  have hD : va_D A [(h, .inr (6, [.ref st, .int (nI fx), .ref fl, .ref fn, .ref li, .int 0, .ref rc, .int (nI rn_), .int rb])), (fl, .inl (cI, 256, .inl ffl)), (fn, .inl (cI, 16, .inl ffn)), (li, .inl (cI, 32, .inl fli))] := hD
  refine lv_iconst (v := 0) hx hb d_World_fix_5 (by decide) ?_
  refine lv_istore (lv' := [(5, .int 0), (0, .ref h), (1, .int 1), (2, .int (nI pa1)), (3, .int ba), (4, .int ca)]) hx hb d_World_fix_6 hl (by decide) rfl (fun ls hl => ?_)
  refine lv_iload_n hx hb d_World_fix_8 rfl (lv_at hl 2 rfl) ?_
  refine lv_iconst (v := 1) hx hb d_World_fix_9 (by decide) ?_
  refine lv_isub hx hb d_World_fix_10 ?_
  refine lv_topi (fun z1 hz1 => ?_)
  obtain rfl : z1 = 0 := hz1.trans (by decide)
  refine lv_istore (lv' := [(6, .int 0), (5, .int 0), (0, .ref h), (1, .int 1), (2, .int (nI pa1)), (3, .int ba), (4, .int ca)]) hx hb d_World_fix_11 hl (by decide) rfl (fun ls hl => ?_)
  refine lv_iload hx hb d_World_fix_13 (lv_at hl 0 rfl) ?_
  refine lv_if_lt hx hb d_World_fix_15 (tgt := 53) (by decide) (fun hz => absurd hz (by decide)) (fun _ => ?_)
  refine lv_aload_n hx hb d_World_fix_18 rfl (lv_at hl 2 rfl) ?_
  refine lv_iload hx hb d_World_fix_19 (lv_at hl 0 rfl) ?_
  refine lv_if_ne hx hb d_World_fix_21 (tgt := 28) (by decide) (fun hz => absurd (by decide) hz) (fun _ => ?_)
  refine lv_iload_n hx hb d_World_fix_24 rfl (lv_at hl 4 rfl) ?_
  refine lv_goto hx hb d_World_fix_25 (tgt := 40) (by decide) ?_
  refine lv_iload hx hb d_World_fix_40 (lv_at hl 1 rfl) ?_
  refine mv_i (va_runV (C := "TaleMachine$World") (As := [.int (nI pa1), .int 0]) (rest := []) ⟨hx, hb, hml, hown, hts⟩ (w_gather l D cI cZ cJ h st fl fn li rc 0 0 0 fx 0 rn_ rb pa1 0 ffl ffn fli _ (by first | assumption | omega | decide) (by first | assumption | omega | decide) (by first | assumption | omega | decide) GA.zero) (cwV 2 hts (gInV k_544 k_545 k_897 k_3 k_546) rfl rfl rfl (by decide +kernel) ⟨Nat.le_of_ble_eq_true rfl, Nat.le_of_ble_eq_true rfl⟩) (pre_V (va_recv hK hP (q := ("TaleMachine$World", F_World, 9)) rfl (q0 := 0) rfl) (hP.sub [0, 1, 2, 3] rfl) (hK.sub [0, 1, 2] rfl) (hD.sub [0, 1, 2, 3] (by decide) rfl) hT) rfl rfl hl.1 rfl (lv_room (Nat.le_of_ble_eq_true rfl)) d_World_fix_42 ⟨Nat.le_of_ble_eq_true rfl, Nat.le_of_ble_eq_true rfl⟩) hP hD hS hA [0, 1, 2, 3] [] rfl rfl (by decide) (by decide) (wr := []) (wn := fun u => match u with | (le2, g) => [(h, .inr (6, [.ref st, .int (nI fx), .ref fl, .ref fn, .ref li, .int (nI le2), .ref rc, .int (nI rn_), .int rb])), (fl, .inl (cI, 256, .inl ffl)), (fn, .inl (cI, 16, .inl ffn)), (li, .inl (cI, 32, .inl g))]) (fun _ _ h9 => h9) (fun r4 u H locs hp5 hP hD hS => ?_)
  obtain ⟨a2, a3⟩ := u
  dsimp only at hp5
  have hP : va_P D cL [(h, .inr (6, [.ref st, .int (nI fx), .ref fl, .ref fn, .ref li, .int (nI a2), .ref rc, .int (nI rn_), .int rb])), (fl, .inl (cI, 256, .inl ffl)), (fn, .inl (cI, 16, .inl ffn)), (li, .inl (cI, 32, .inl a3))] H := hP
  have hD : va_D A [(h, .inr (6, [.ref st, .int (nI fx), .ref fl, .ref fn, .ref li, .int (nI a2), .ref rc, .int (nI rn_), .int rb])), (fl, .inl (cI, 256, .inl ffl)), (fn, .inl (cI, 16, .inl ffn)), (li, .inl (cI, 32, .inl a3))] := hD
  refine lv_istore (lv' := [(5, .int r4), (6, .int 0), (0, .ref h), (1, .int 1), (2, .int (nI pa1)), (3, .int ba), (4, .int ca)]) hx hb d_World_fix_45 hl (by decide) rfl (fun ls hl => ?_)
  refine lv_iinc (v := (-1)) (lv' := [(6, .int (-1)), (5, .int r4), (0, .ref h), (1, .int 1), (2, .int (nI pa1)), (3, .int ba), (4, .int ca)]) hx hb d_World_fix_47 hl (k := 1) rfl (by decide) (by decide) rfl (fun ls hl => ?_)
  refine lv_goto hx hb d_World_fix_50 (tgt := 13) (by decide) ?_
  refine lv_iload hx hb d_World_fix_13 (lv_at hl 0 rfl) ?_
  refine lv_if_lt hx hb d_World_fix_15 (tgt := 53) (by decide) (fun _ => ?_) (fun hz => absurd (by decide) hz)
  have hGA := hp5
  have hGl := hGA.le
  refine lv_aload_n hx hb d_World_fix_53 rfl (lv_at hl 2 rfl) ?_
  refine va_get (D := D) (ci := 6) (v := .int (nI fx)) (C := "TaleMachine$World") (T := F_World) (N := 9) hx hb hts in_World hown hK hP 0 rfl rfl 1 (by decide) (hts _ k_62) (fun _ h9 => h9) rfl d_World_fix_54 ?_
  refine lv_bipush (v := 16) hx hb d_World_fix_57 (by decide) ?_
  refine lv_imul hx hb d_World_fix_59 ?_
  refine lv_topi (fun z6 hz6 => ?_)
  obtain rfl : z6 = nI (fx * 16) := hz6.trans (pk_mul fx 16)
  refine lv_istore (lv' := [(6, .int (nI (fx * 16))), (5, .int r4), (0, .ref h), (1, .int 1), (2, .int (nI pa1)), (3, .int ba), (4, .int ca)]) hx hb d_World_fix_60 hl (by decide) rfl (fun ls hl => ?_)
  refine lv_aload_n hx hb d_World_fix_62 rfl (lv_at hl 2 rfl) ?_
  refine va_get (D := D) (ci := 6) (v := .ref fl) (C := "TaleMachine$World") (T := F_World) (N := 9) hx hb hts in_World hown hK hP 0 rfl rfl 2 (by decide) (hts _ k_64) (fun _ h9 => h9) rfl d_World_fix_63 ?_
  refine lv_iload hx hb d_World_fix_66 (lv_at hl 0 rfl) ?_
  refine lv_aload_n hx hb d_World_fix_68 rfl (lv_at hl 2 rfl) ?_
  refine va_get (D := D) (ci := 6) (v := .int (nI fx)) (C := "TaleMachine$World") (T := F_World) (N := 9) hx hb hts in_World hown hK hP 0 rfl rfl 1 (by decide) (hts _ k_62) (fun _ h9 => h9) rfl d_World_fix_69 ?_
  refine ia_st hx hb hK hP hD hS 1 0 rfl rfl (k := fx * 16) (x := (nI fx)) (by omega) (by first | decide | assumption) d_World_fix_72 (fun H locs hP hD hS => ?_)
  have hP : va_P D cL [(h, .inr (6, [.ref st, .int (nI fx), .ref fl, .ref fn, .ref li, .int (nI a2), .ref rc, .int (nI rn_), .int rb])), (fl, .inl (cI, 256, .inl (upd ffl (fx * 16) (nI fx)))), (fn, .inl (cI, 16, .inl ffn)), (li, .inl (cI, 32, .inl a3))] H := hP
  have hD : va_D A [(h, .inr (6, [.ref st, .int (nI fx), .ref fl, .ref fn, .ref li, .int (nI a2), .ref rc, .int (nI rn_), .int rb])), (fl, .inl (cI, 256, .inl (upd ffl (fx * 16) (nI fx)))), (fn, .inl (cI, 16, .inl ffn)), (li, .inl (cI, 32, .inl a3))] := hD
  refine lv_iconst (v := 0) hx hb d_World_fix_73 (by decide) ?_
  refine lv_istore (lv' := [(7, .int 0), (6, .int (nI (fx * 16))), (5, .int r4), (0, .ref h), (1, .int 1), (2, .int (nI pa1)), (3, .int ba), (4, .int ca)]) hx hb d_World_fix_74 hl (by decide) rfl (fun ls hl => ?_)
  refine lp_W (I := fun k7 H locs ls => ∃ gl9 : Nat → Int32, (FXP ffl gl9 fx k7) ∧ va_P D cL [(h, .inr (6, [.ref st, .int (nI fx), .ref fl, .ref fn, .ref li, .int (nI a2), .ref rc, .int (nI rn_), .int rb])), (fl, .inl (cI, 256, .inl gl9)), (fn, .inl (cI, 16, .inl ffn)), (li, .inl (cI, 32, .inl a3))] H ∧ va_D A [(h, .inr (6, [.ref st, .int (nI fx), .ref fl, .ref fn, .ref li, .int (nI a2), .ref rc, .int (nI rn_), .int rb])), (fl, .inl (cI, 256, .inl gl9)), (fn, .inl (cI, 16, .inl ffn)), (li, .inl (cI, 32, .inl a3))] ∧ va_S A s.heap H locs ∧ lv_has ls 8 [(7, .int (nI k7)), (6, .int (nI (fx * 16))), (5, .int r4), (0, .ref h), (1, .int 1), (2, .int (nI pa1)), (3, .int ba), (4, .int ca)]) (a := 0) (b := a2) (by omega) ?_ _ _ _ ⟨_, FXP.init, hP, hD, hS, lv_sub hl [0, 1, 2, 3, 4, 5, 6, 7] rfl⟩
  intro k7 H locs ls hkak7 hkbk7 hI ih8
  obtain ⟨gl9, hIk7, hP, hD, hS, hl⟩ := hI
  rcases Nat.lt_or_ge k7 a2 with hkk7 | hkk7
  · refine lv_iload hx hb d_World_fix_76 (lv_at hl 0 rfl) ?_
    refine lv_aload_n hx hb d_World_fix_78 rfl (lv_at hl 3 rfl) ?_
    refine va_get (D := D) (ci := 6) (v := .int (nI a2)) (C := "TaleMachine$World") (T := F_World) (N := 9) hx hb hts in_World hown hK hP 0 rfl rfl 5 (by decide) (hts _ k_67) (fun _ h9 => h9) rfl d_World_fix_79 ?_
    refine lv_icmp_ge hx hb d_World_fix_82 (tgt := 117) (by decide) (fun hc9 => ?_) (fun hc9 => ?_)
    · have hc9N : a2 ≤ k7 := (nI_leI (a := a2) (b := k7) (by omega) (by omega)).mp hc9
      exact absurd hc9N (by omega)
    · have hc9N : ¬ a2 ≤ k7 := fun z9 => hc9 ((nI_leI (a := a2) (b := k7) (by omega) (by omega)).mpr z9)
      refine lv_aload_n hx hb d_World_fix_85 rfl (lv_at hl 3 rfl) ?_
      refine va_get (D := D) (ci := 6) (v := .ref fl) (C := "TaleMachine$World") (T := F_World) (N := 9) hx hb hts in_World hown hK hP 0 rfl rfl 2 (by decide) (hts _ k_64) (fun _ h9 => h9) rfl d_World_fix_86 ?_
      refine lv_iload hx hb d_World_fix_89 (lv_at hl 1 rfl) ?_
      refine lv_iconst (v := 1) hx hb d_World_fix_91 (by decide) ?_
      refine lv_iadd hx hb d_World_fix_92 ?_
      refine lv_topi (fun z10 hz10 => ?_)
      obtain rfl : z10 = nI ((fx * 16) + 1) := hz10.trans (nI_add (fx * 16) 1)
      refine lv_iload hx hb d_World_fix_93 (lv_at hl 0 rfl) ?_
      refine lv_iadd hx hb d_World_fix_95 ?_
      refine lv_topi (fun z11 hz11 => ?_)
      obtain rfl : z11 = nI (((fx * 16) + 1) + k7) := hz11.trans (nI_add ((fx * 16) + 1) k7)
      refine lv_aload_n hx hb d_World_fix_96 rfl (lv_at hl 3 rfl) ?_
      refine va_get (D := D) (ci := 6) (v := .ref li) (C := "TaleMachine$World") (T := F_World) (N := 9) hx hb hts in_World hown hK hP 0 rfl rfl 4 (by decide) (hts _ k_66) (fun _ h9 => h9) rfl d_World_fix_97 ?_
      refine lv_aload_n hx hb d_World_fix_100 rfl (lv_at hl 3 rfl) ?_
      refine va_get (D := D) (ci := 6) (v := .int (nI a2)) (C := "TaleMachine$World") (T := F_World) (N := 9) hx hb hts in_World hown hK hP 0 rfl rfl 5 (by decide) (hts _ k_67) (fun _ h9 => h9) rfl d_World_fix_101 ?_
      refine lv_iconst (v := 1) hx hb d_World_fix_104 (by decide) ?_
      refine lv_isub hx hb d_World_fix_105 ?_
      refine lv_topi (fun z12 hz12 => ?_)
      obtain rfl : z12 = nI (a2 - 1) := hz12.trans (pk_sub (a := a2) (b := 1) (by omega))
      refine lv_iload hx hb d_World_fix_106 (lv_at hl 0 rfl) ?_
      refine lv_isub hx hb d_World_fix_108 ?_
      refine lv_topi (fun z13 hz13 => ?_)
      obtain rfl : z13 = nI ((a2 - 1) - k7) := hz13.trans (pk_sub (a := a2 - 1) (b := k7) (by omega))
      refine ia_ld hx hb hK hP 3 0 rfl rfl (k := (a2 - 1) - k7) (by omega) (by first | decide | assumption) d_World_fix_109 ?_
      obtain ⟨q9, hq9, hqe9⟩ := hGA.2.1 ((a2 - 1) - k7) (by omega)
      refine lv_topi (fun z14 hz14 => ?_)
      obtain rfl : z14 = (nI q9) := hz14.trans (hqe9)
      refine ia_st hx hb hK hP hD hS 1 0 rfl rfl (k := ((fx * 16) + 1) + k7) (x := (nI q9)) (by omega) (by first | decide | assumption) d_World_fix_110 (fun H locs hP hD hS => ?_)
      have hP : va_P D cL [(h, .inr (6, [.ref st, .int (nI fx), .ref fl, .ref fn, .ref li, .int (nI a2), .ref rc, .int (nI rn_), .int rb])), (fl, .inl (cI, 256, .inl (upd gl9 (((fx * 16) + 1) + k7) (nI q9)))), (fn, .inl (cI, 16, .inl ffn)), (li, .inl (cI, 32, .inl a3))] H := hP
      have hD : va_D A [(h, .inr (6, [.ref st, .int (nI fx), .ref fl, .ref fn, .ref li, .int (nI a2), .ref rc, .int (nI rn_), .int rb])), (fl, .inl (cI, 256, .inl (upd gl9 (((fx * 16) + 1) + k7) (nI q9)))), (fn, .inl (cI, 16, .inl ffn)), (li, .inl (cI, 32, .inl a3))] := hD
      refine lv_iinc (v := (nI (k7 + 1))) (lv' := [(7, .int (nI (k7 + 1))), (6, .int (nI (fx * 16))), (5, .int r4), (0, .ref h), (1, .int 1), (2, .int (nI pa1)), (3, .int ba), (4, .int ca)]) hx hb d_World_fix_111 hl (k := 0) rfl (nI_1 k7) (by decide) rfl (fun ls hl => ?_)
      refine lv_goto hx hb d_World_fix_114 (tgt := 76) (by decide) ?_
      exact ih8 hkk7 _ _ _ ⟨_, hIk7.step hq9, hP, hD, hS, lv_sub hl [0, 1, 2, 3, 4, 5, 6, 7] rfl⟩
  · have hkk7 : k7 = a2 := by omega
    refine lv_iload hx hb d_World_fix_76 (lv_at hl 0 rfl) ?_
    refine lv_aload_n hx hb d_World_fix_78 rfl (lv_at hl 3 rfl) ?_
    refine va_get (D := D) (ci := 6) (v := .int (nI a2)) (C := "TaleMachine$World") (T := F_World) (N := 9) hx hb hts in_World hown hK hP 0 rfl rfl 5 (by decide) (hts _ k_67) (fun _ h9 => h9) rfl d_World_fix_79 ?_
    refine lv_icmp_ge hx hb d_World_fix_82 (tgt := 117) (by decide) (fun hc15 => ?_) (fun hc15 => ?_)
    · have hc15N : a2 ≤ k7 := (nI_leI (a := a2) (b := k7) (by omega) (by omega)).mp hc15
      refine lv_aload_n hx hb d_World_fix_117 rfl (lv_at hl 3 rfl) ?_
      refine va_get (D := D) (ci := 6) (v := .ref fn) (C := "TaleMachine$World") (T := F_World) (N := 9) hx hb hts in_World hown hK hP 0 rfl rfl 3 (by decide) (hts _ k_65) (fun _ h9 => h9) rfl d_World_fix_118 ?_
      refine lv_aload_n hx hb d_World_fix_121 rfl (lv_at hl 3 rfl) ?_
      refine va_get (D := D) (ci := 6) (v := .int (nI fx)) (C := "TaleMachine$World") (T := F_World) (N := 9) hx hb hts in_World hown hK hP 0 rfl rfl 1 (by decide) (hts _ k_62) (fun _ h9 => h9) rfl d_World_fix_122 ?_
      refine lv_aload_n hx hb d_World_fix_125 rfl (lv_at hl 3 rfl) ?_
      refine va_get (D := D) (ci := 6) (v := .int (nI a2)) (C := "TaleMachine$World") (T := F_World) (N := 9) hx hb hts in_World hown hK hP 0 rfl rfl 5 (by decide) (hts _ k_67) (fun _ h9 => h9) rfl d_World_fix_126 ?_
      refine lv_iconst (v := 1) hx hb d_World_fix_129 (by decide) ?_
      refine lv_iadd hx hb d_World_fix_130 ?_
      refine lv_topi (fun z16 hz16 => ?_)
      obtain rfl : z16 = nI (a2 + 1) := hz16.trans (nI_add a2 1)
      refine ia_st hx hb hK hP hD hS 2 0 rfl rfl (k := fx) (x := (nI (a2 + 1))) (by omega) (by first | decide | assumption) d_World_fix_131 (fun H locs hP hD hS => ?_)
      have hP : va_P D cL [(h, .inr (6, [.ref st, .int (nI fx), .ref fl, .ref fn, .ref li, .int (nI a2), .ref rc, .int (nI rn_), .int rb])), (fl, .inl (cI, 256, .inl gl9)), (fn, .inl (cI, 16, .inl (upd ffn fx (nI (a2 + 1))))), (li, .inl (cI, 32, .inl a3))] H := hP
      have hD : va_D A [(h, .inr (6, [.ref st, .int (nI fx), .ref fl, .ref fn, .ref li, .int (nI a2), .ref rc, .int (nI rn_), .int rb])), (fl, .inl (cI, 256, .inl gl9)), (fn, .inl (cI, 16, .inl (upd ffn fx (nI (a2 + 1))))), (li, .inl (cI, 32, .inl a3))] := hD
      refine lv_aload_n hx hb d_World_fix_132 rfl (lv_at hl 3 rfl) ?_
      refine lv_dup hx hb d_World_fix_133 rfl ?_
      refine va_get (D := D) (ci := 6) (v := .int (nI fx)) (C := "TaleMachine$World") (T := F_World) (N := 9) hx hb hts in_World hown hK hP 0 rfl rfl 1 (by decide) (hts _ k_62) (fun _ h9 => h9) rfl d_World_fix_134 ?_
      refine lv_iconst (v := 1) hx hb d_World_fix_137 (by decide) ?_
      refine lv_iadd hx hb d_World_fix_138 ?_
      refine lv_topi (fun z17 hz17 => ?_)
      obtain rfl : z17 = nI (fx + 1) := hz17.trans (nI_add fx 1)
      refine va_put (D := D) (ci := 6) (v := .int (nI (fx + 1))) (ty := .int) (C := "TaleMachine$World") (T := F_World) (N := 9) hx hb hts in_World t_World t_World_ok n_World hown hK hP hD hS 0 rfl rfl 1 (by decide) (hts _ k_62) (fun _ h9 => h9) rfl (by decide +kernel) rfl rfl (Nat.le_of_ble_eq_true rfl) d_World_fix_139 (fun H locs hP hD hS => ?_)
      have hP : va_P D cL [(h, .inr (6, [.ref st, .int (nI (fx + 1)), .ref fl, .ref fn, .ref li, .int (nI a2), .ref rc, .int (nI rn_), .int rb])), (fl, .inl (cI, 256, .inl gl9)), (fn, .inl (cI, 16, .inl (upd ffn fx (nI (a2 + 1))))), (li, .inl (cI, 32, .inl a3))] H := hP
      have hD : va_D A [(h, .inr (6, [.ref st, .int (nI (fx + 1)), .ref fl, .ref fn, .ref li, .int (nI a2), .ref rc, .int (nI rn_), .int rb])), (fl, .inl (cI, 256, .inl gl9)), (fn, .inl (cI, 16, .inl (upd ffn fx (nI (a2 + 1))))), (li, .inl (cI, 32, .inl a3))] := hD
      refine lv_aload_n hx hb d_World_fix_142 rfl (lv_at hl 3 rfl) ?_
      refine va_get (D := D) (ci := 6) (v := .int (nI (fx + 1))) (C := "TaleMachine$World") (T := F_World) (N := 9) hx hb hts in_World hown hK hP 0 rfl rfl 1 (by decide) (hts _ k_62) (fun _ h9 => h9) rfl d_World_fix_143 ?_
      refine lv_iconst (v := 1) hx hb d_World_fix_146 (by decide) ?_
      refine lv_isub hx hb d_World_fix_147 ?_
      refine lv_topi (fun z18 hz18 => ?_)
      obtain rfl : z18 = nI ((fx + 1) - 1) := hz18.trans (pk_sub (a := fx + 1) (b := 1) (by omega))
      exact end_i hx hb hr hlocks hS (u := (a2, a3, gl9, upd ffn fx (nI (a2 + 1)))) (r := (nI ((fx + 1) - 1))) (at_end (hP.sub (ws' := [(h, .inr (6, [.ref st, .int (nI (fx + 1)), .ref fl, .ref fn, .ref li, .int (nI a2), .ref rc, .int (nI rn_), .int rb])), (fl, .inl (cI, 256, .inl gl9)), (fn, .inl (cI, 16, .inl (upd ffn fx (nI (a2 + 1))))), (li, .inl (cI, 32, .inl a3))]) [0, 1, 2, 3] rfl) (hD.sub (ws' := [(h, .inr (6, [.ref st, .int (nI (fx + 1)), .ref fl, .ref fn, .ref li, .int (nI a2), .ref rc, .int (nI rn_), .int rb])), (fl, .inl (cI, 256, .inl gl9)), (fn, .inl (cI, 16, .inl (upd ffn fx (nI (a2 + 1))))), (li, .inl (cI, 32, .inl a3))]) [0, 1, 2, 3] (by decide) rfl)) (hX.new hfx hGl (by have z9 := hIk7; rw [hkk7] at z9; exact z9)) (Nat.le_of_ble_eq_true rfl) (Nat.le_of_ble_eq_true rfl) d_World_fix_148
    · have hc15N : ¬ a2 ≤ k7 := fun z9 => hc15 ((nI_leI (a := a2) (b := k7) (by omega) (by omega)).mpr z9)
      exact absurd hc15N (by omega)

set_option maxHeartbeats 4000000 in
set_option maxRecDepth 100000 in
theorem w_fix_2 (l : Launch) (D : va_G) (cI cZ cJ : ClassId) (h st fl fn li rc kd it pa : Nat) (fx le rn_ : Nat) (rb : Int32) (aa ba ca : Int32) (pa1 pa2 pa3 : Nat) (ffl ffn fli : Nat → Int32) (sz : Nat) (hfx : fx < 16) (hp1 : pa1 < fx) (hp2 : pa2 < fx) (hX : FXI ffl ffn fx) : Met l y_World_fix (.code y_World_fix prog_8_method_8_code 8 (some .int) :: AW) ({ frames := 1, cells := 0, slots := 0, locals := 25 }) (va_Pc [.ref h, .int 2, .int (nI pa1), .int (nI pa2), .int ca] (pre_ D [(h, .inr (6, [.ref st, .int (nI fx), .ref fl, .ref fn, .ref li, .int (nI le), .ref rc, .int (nI rn_), .int rb])), (fl, .inl (cI, 256, .inl ffl)), (fn, .inl (cI, 16, .inl ffn)), (li, .inl (cI, 32, .inl fli))] [(cI, .int), (cZ, .boolean), (cJ, .long)] sz)) (va_Qi (fun (r : Int32) (u : Nat × (Nat → Int32) × (Nat → Int32) × (Nat → Int32)) => FXI u.2.2.1 u.2.2.2 (fx + 1)) (fun u t => match u with | (le2, g, gl, gn) => post_ D (va_A [(h, .inr (6, [.ref st, .int (nI fx), .ref fl, .ref fn, .ref li, .int (nI le), .ref rc, .int (nI rn_), .int rb])), (fl, .inl (cI, 256, .inl ffl)), (fn, .inl (cI, 16, .inl ffn)), (li, .inl (cI, 32, .inl fli))] sz) [(h, .inr (6, [.ref st, .int (nI (fx + 1)), .ref fl, .ref fn, .ref li, .int (nI le2), .ref rc, .int (nI rn_), .int rb])), (fl, .inl (cI, 256, .inl gl)), (fn, .inl (cI, 16, .inl gn)), (li, .inl (cI, 32, .inl g))] t) (va_A [(h, .inr (6, [.ref st, .int (nI fx), .ref fl, .ref fn, .ref li, .int (nI le), .ref rc, .int (nI rn_), .int rb])), (fl, .inl (cI, 256, .inl ffl)), (fn, .inl (cI, 16, .inl ffn)), (li, .inl (cI, 32, .inl fli))] sz)) 0 0 (va_A [(h, .inr (6, [.ref st, .int (nI fx), .ref fl, .ref fn, .ref li, .int (nI le), .ref rc, .int (nI rn_), .int rb])), (fl, .inl (cI, 256, .inl ffl)), (fn, .inl (cI, 16, .inl ffn)), (li, .inl (cI, 32, .inl fli))] sz) := by
  refine Met.ofW (cc := prog_8_method_8_code) (maxL := 8) (ret := (some .int)) (by decide) rfl ?_
  intro p e s m args below meth c s₁ B hml hv
  obtain ⟨rfl, rfl, hP, hK, hD0, hT⟩ := hv
  have hx := B.exec
  have hb := B.bytes
  have hr := B.returns
  have hts0 := atoms_spec (ws := .code y_World_fix prog_8_method_8_code 8 (some .int) :: AW) B.pre
  have hts : ∀ w ∈ AW, w.before [.ref h, .int 2, .int (nI pa1), .int (nI pa2), .int ca].toArray s = true := fun w h => hts0 w (List.mem_cons_of_mem _ h)
  have hown : s.vm.findClass "TaleMachine$World" = some m.cls := findClass_of_methodNamed B.named
  have hlocks := B.notSynchronized
  have hD := hD0.self (sz := s.heap.size)
  generalize hAe : va_A [(h, .inr (6, [.ref st, .int (nI fx), .ref fl, .ref fn, .ref li, .int (nI le), .ref rc, .int (nI rn_), .int rb])), (fl, .inl (cI, 256, .inl ffl)), (fn, .inl (cI, 16, .inl ffn)), (li, .inl (cI, 32, .inl fli))] s.heap.size = A at hD ⊢
  have hA : ∀ q : Nat, s.heap.size ≤ q → A q := fun q h => by rw [← hAe]; exact Or.inr h
  have hS : va_S A s.heap s.heap [] := va_S.rf
  have hl := lv_entry ([.ref h, .int 2, .int (nI pa1), .int (nI pa2), .int ca]) (n := 8) (Nat.le_of_ble_eq_true rfl)
  rw [lg_entry_eq]
  generalize (lg_sl ([.ref h, .int 2, .int (nI pa1), .int (nI pa2), .int ca]) ++ List.replicate (8 - (lg_sl ([.ref h, .int 2, .int (nI pa1), .int (nI pa2), .int ca])).length) Slot.unset).toArray = ls at hl ⊢
  have hl : lv_has ls 8 [(0, .ref h), (1, .int 2), (2, .int (nI pa1)), (3, .int (nI pa2)), (4, .int ca)] := hl
  refine lv_aload_n hx hb d_World_fix_0 rfl (lv_at hl 0 rfl) ?_
  refine lv_iconst (v := 0) hx hb d_World_fix_1 (by decide) ?_
  refine va_put (D := D) (ci := 6) (v := .int 0) (ty := .int) (C := "TaleMachine$World") (T := F_World) (N := 9) hx hb hts in_World t_World t_World_ok n_World hown hK hP hD hS 0 rfl rfl 5 (by decide) (hts _ k_67) (fun _ h9 => h9) rfl (by decide +kernel) rfl rfl (Nat.le_of_ble_eq_true rfl) d_World_fix_2 (fun H locs hP hD hS => ?_)
  have hP : va_P D cL [(h, .inr (6, [.ref st, .int (nI fx), .ref fl, .ref fn, .ref li, .int 0, .ref rc, .int (nI rn_), .int rb])), (fl, .inl (cI, 256, .inl ffl)), (fn, .inl (cI, 16, .inl ffn)), (li, .inl (cI, 32, .inl fli))] H := hP
  have hD : va_D A [(h, .inr (6, [.ref st, .int (nI fx), .ref fl, .ref fn, .ref li, .int 0, .ref rc, .int (nI rn_), .int rb])), (fl, .inl (cI, 256, .inl ffl)), (fn, .inl (cI, 16, .inl ffn)), (li, .inl (cI, 32, .inl fli))] := hD
  refine lv_iconst (v := 0) hx hb d_World_fix_5 (by decide) ?_
  refine lv_istore (lv' := [(5, .int 0), (0, .ref h), (1, .int 2), (2, .int (nI pa1)), (3, .int (nI pa2)), (4, .int ca)]) hx hb d_World_fix_6 hl (by decide) rfl (fun ls hl => ?_)
  refine lv_iload_n hx hb d_World_fix_8 rfl (lv_at hl 2 rfl) ?_
  refine lv_iconst (v := 1) hx hb d_World_fix_9 (by decide) ?_
  refine lv_isub hx hb d_World_fix_10 ?_
  refine lv_topi (fun z1 hz1 => ?_)
  obtain rfl : z1 = 1 := hz1.trans (by decide)
  refine lv_istore (lv' := [(6, .int 1), (5, .int 0), (0, .ref h), (1, .int 2), (2, .int (nI pa1)), (3, .int (nI pa2)), (4, .int ca)]) hx hb d_World_fix_11 hl (by decide) rfl (fun ls hl => ?_)
  refine lv_iload hx hb d_World_fix_13 (lv_at hl 0 rfl) ?_
  refine lv_if_lt hx hb d_World_fix_15 (tgt := 53) (by decide) (fun hz => absurd hz (by decide)) (fun _ => ?_)
  refine lv_aload_n hx hb d_World_fix_18 rfl (lv_at hl 2 rfl) ?_
  refine lv_iload hx hb d_World_fix_19 (lv_at hl 0 rfl) ?_
  refine lv_if_ne hx hb d_World_fix_21 (tgt := 28) (by decide) (fun _ => ?_) (fun hz => absurd hz (by decide))
  refine lv_iload hx hb d_World_fix_28 (lv_at hl 0 rfl) ?_
  refine lv_iconst (v := 1) hx hb d_World_fix_30 (by decide) ?_
  refine lv_icmp_ne hx hb d_World_fix_31 (tgt := 38) (by decide) (fun hz => absurd (by decide) hz) (fun _ => ?_)
  refine lv_iload_n hx hb d_World_fix_34 rfl (lv_at hl 5 rfl) ?_
  refine lv_goto hx hb d_World_fix_35 (tgt := 40) (by decide) ?_
  refine lv_iload hx hb d_World_fix_40 (lv_at hl 1 rfl) ?_
  refine mv_i (va_runV (C := "TaleMachine$World") (As := [.int (nI pa2), .int 0]) (rest := []) ⟨hx, hb, hml, hown, hts⟩ (w_gather l D cI cZ cJ h st fl fn li rc 0 0 0 fx 0 rn_ rb pa2 0 ffl ffn fli _ (by first | assumption | omega | decide) (by first | assumption | omega | decide) (by first | assumption | omega | decide) GA.zero) (cwV 2 hts (gInV k_544 k_545 k_897 k_3 k_546) rfl rfl rfl (by decide +kernel) ⟨Nat.le_of_ble_eq_true rfl, Nat.le_of_ble_eq_true rfl⟩) (pre_V (va_recv hK hP (q := ("TaleMachine$World", F_World, 9)) rfl (q0 := 0) rfl) (hP.sub [0, 1, 2, 3] rfl) (hK.sub [0, 1, 2] rfl) (hD.sub [0, 1, 2, 3] (by decide) rfl) hT) rfl rfl hl.1 rfl (lv_room (Nat.le_of_ble_eq_true rfl)) d_World_fix_42 ⟨Nat.le_of_ble_eq_true rfl, Nat.le_of_ble_eq_true rfl⟩) hP hD hS hA [0, 1, 2, 3] [] rfl rfl (by decide) (by decide) (wr := []) (wn := fun u => match u with | (le2, g) => [(h, .inr (6, [.ref st, .int (nI fx), .ref fl, .ref fn, .ref li, .int (nI le2), .ref rc, .int (nI rn_), .int rb])), (fl, .inl (cI, 256, .inl ffl)), (fn, .inl (cI, 16, .inl ffn)), (li, .inl (cI, 32, .inl g))]) (fun _ _ h9 => h9) (fun r4 u H locs hp5 hP hD hS => ?_)
  obtain ⟨a2, a3⟩ := u
  dsimp only at hp5
  have hP : va_P D cL [(h, .inr (6, [.ref st, .int (nI fx), .ref fl, .ref fn, .ref li, .int (nI a2), .ref rc, .int (nI rn_), .int rb])), (fl, .inl (cI, 256, .inl ffl)), (fn, .inl (cI, 16, .inl ffn)), (li, .inl (cI, 32, .inl a3))] H := hP
  have hD : va_D A [(h, .inr (6, [.ref st, .int (nI fx), .ref fl, .ref fn, .ref li, .int (nI a2), .ref rc, .int (nI rn_), .int rb])), (fl, .inl (cI, 256, .inl ffl)), (fn, .inl (cI, 16, .inl ffn)), (li, .inl (cI, 32, .inl a3))] := hD
  refine lv_istore (lv' := [(5, .int r4), (6, .int 1), (0, .ref h), (1, .int 2), (2, .int (nI pa1)), (3, .int (nI pa2)), (4, .int ca)]) hx hb d_World_fix_45 hl (by decide) rfl (fun ls hl => ?_)
  refine lv_iinc (v := 0) (lv' := [(6, .int 0), (5, .int r4), (0, .ref h), (1, .int 2), (2, .int (nI pa1)), (3, .int (nI pa2)), (4, .int ca)]) hx hb d_World_fix_47 hl (k := 1) rfl (by decide) (by decide) rfl (fun ls hl => ?_)
  refine lv_goto hx hb d_World_fix_50 (tgt := 13) (by decide) ?_
  refine lv_iload hx hb d_World_fix_13 (lv_at hl 0 rfl) ?_
  refine lv_if_lt hx hb d_World_fix_15 (tgt := 53) (by decide) (fun hz => absurd hz (by decide)) (fun _ => ?_)
  refine lv_aload_n hx hb d_World_fix_18 rfl (lv_at hl 2 rfl) ?_
  refine lv_iload hx hb d_World_fix_19 (lv_at hl 0 rfl) ?_
  refine lv_if_ne hx hb d_World_fix_21 (tgt := 28) (by decide) (fun hz => absurd (by decide) hz) (fun _ => ?_)
  refine lv_iload_n hx hb d_World_fix_24 rfl (lv_at hl 4 rfl) ?_
  refine lv_goto hx hb d_World_fix_25 (tgt := 40) (by decide) ?_
  refine lv_iload hx hb d_World_fix_40 (lv_at hl 1 rfl) ?_
  refine mv_i (va_runV (C := "TaleMachine$World") (As := [.int (nI pa1), .int r4]) (rest := []) ⟨hx, hb, hml, hown, hts⟩ (w_gather l D cI cZ cJ h st fl fn li rc 0 0 0 fx a2 rn_ rb pa1 r4 ffl ffn a3 _ (by first | assumption | omega | decide) (by first | assumption | omega | decide) (by first | assumption | omega | decide) hp5) (cwV 2 hts (gInV k_544 k_545 k_897 k_3 k_546) rfl rfl rfl (by decide +kernel) ⟨Nat.le_of_ble_eq_true rfl, Nat.le_of_ble_eq_true rfl⟩) (pre_V (va_recv hK hP (q := ("TaleMachine$World", F_World, 9)) rfl (q0 := 0) rfl) (hP.sub [0, 1, 2, 3] rfl) (hK.sub [0, 1, 2] rfl) (hD.sub [0, 1, 2, 3] (by decide) rfl) hT) rfl rfl hl.1 rfl (lv_room (Nat.le_of_ble_eq_true rfl)) d_World_fix_42 ⟨Nat.le_of_ble_eq_true rfl, Nat.le_of_ble_eq_true rfl⟩) hP hD hS hA [0, 1, 2, 3] [] rfl rfl (by decide) (by decide) (wr := []) (wn := fun u => match u with | (le2, g) => [(h, .inr (6, [.ref st, .int (nI fx), .ref fl, .ref fn, .ref li, .int (nI le2), .ref rc, .int (nI rn_), .int rb])), (fl, .inl (cI, 256, .inl ffl)), (fn, .inl (cI, 16, .inl ffn)), (li, .inl (cI, 32, .inl g))]) (fun _ _ h9 => h9) (fun r8 u H locs hp9 hP hD hS => ?_)
  obtain ⟨a6, a7⟩ := u
  dsimp only at hp9
  have hP : va_P D cL [(h, .inr (6, [.ref st, .int (nI fx), .ref fl, .ref fn, .ref li, .int (nI a6), .ref rc, .int (nI rn_), .int rb])), (fl, .inl (cI, 256, .inl ffl)), (fn, .inl (cI, 16, .inl ffn)), (li, .inl (cI, 32, .inl a7))] H := hP
  have hD : va_D A [(h, .inr (6, [.ref st, .int (nI fx), .ref fl, .ref fn, .ref li, .int (nI a6), .ref rc, .int (nI rn_), .int rb])), (fl, .inl (cI, 256, .inl ffl)), (fn, .inl (cI, 16, .inl ffn)), (li, .inl (cI, 32, .inl a7))] := hD
  refine lv_istore (lv' := [(5, .int r8), (6, .int 0), (0, .ref h), (1, .int 2), (2, .int (nI pa1)), (3, .int (nI pa2)), (4, .int ca)]) hx hb d_World_fix_45 hl (by decide) rfl (fun ls hl => ?_)
  refine lv_iinc (v := (-1)) (lv' := [(6, .int (-1)), (5, .int r8), (0, .ref h), (1, .int 2), (2, .int (nI pa1)), (3, .int (nI pa2)), (4, .int ca)]) hx hb d_World_fix_47 hl (k := 1) rfl (by decide) (by decide) rfl (fun ls hl => ?_)
  refine lv_goto hx hb d_World_fix_50 (tgt := 13) (by decide) ?_
  refine lv_iload hx hb d_World_fix_13 (lv_at hl 0 rfl) ?_
  refine lv_if_lt hx hb d_World_fix_15 (tgt := 53) (by decide) (fun _ => ?_) (fun hz => absurd (by decide) hz)
  have hGA := hp9
  have hGl := hGA.le
  refine lv_aload_n hx hb d_World_fix_53 rfl (lv_at hl 2 rfl) ?_
  refine va_get (D := D) (ci := 6) (v := .int (nI fx)) (C := "TaleMachine$World") (T := F_World) (N := 9) hx hb hts in_World hown hK hP 0 rfl rfl 1 (by decide) (hts _ k_62) (fun _ h9 => h9) rfl d_World_fix_54 ?_
  refine lv_bipush (v := 16) hx hb d_World_fix_57 (by decide) ?_
  refine lv_imul hx hb d_World_fix_59 ?_
  refine lv_topi (fun z10 hz10 => ?_)
  obtain rfl : z10 = nI (fx * 16) := hz10.trans (pk_mul fx 16)
  refine lv_istore (lv' := [(6, .int (nI (fx * 16))), (5, .int r8), (0, .ref h), (1, .int 2), (2, .int (nI pa1)), (3, .int (nI pa2)), (4, .int ca)]) hx hb d_World_fix_60 hl (by decide) rfl (fun ls hl => ?_)
  refine lv_aload_n hx hb d_World_fix_62 rfl (lv_at hl 2 rfl) ?_
  refine va_get (D := D) (ci := 6) (v := .ref fl) (C := "TaleMachine$World") (T := F_World) (N := 9) hx hb hts in_World hown hK hP 0 rfl rfl 2 (by decide) (hts _ k_64) (fun _ h9 => h9) rfl d_World_fix_63 ?_
  refine lv_iload hx hb d_World_fix_66 (lv_at hl 0 rfl) ?_
  refine lv_aload_n hx hb d_World_fix_68 rfl (lv_at hl 2 rfl) ?_
  refine va_get (D := D) (ci := 6) (v := .int (nI fx)) (C := "TaleMachine$World") (T := F_World) (N := 9) hx hb hts in_World hown hK hP 0 rfl rfl 1 (by decide) (hts _ k_62) (fun _ h9 => h9) rfl d_World_fix_69 ?_
  refine ia_st hx hb hK hP hD hS 1 0 rfl rfl (k := fx * 16) (x := (nI fx)) (by omega) (by first | decide | assumption) d_World_fix_72 (fun H locs hP hD hS => ?_)
  have hP : va_P D cL [(h, .inr (6, [.ref st, .int (nI fx), .ref fl, .ref fn, .ref li, .int (nI a6), .ref rc, .int (nI rn_), .int rb])), (fl, .inl (cI, 256, .inl (upd ffl (fx * 16) (nI fx)))), (fn, .inl (cI, 16, .inl ffn)), (li, .inl (cI, 32, .inl a7))] H := hP
  have hD : va_D A [(h, .inr (6, [.ref st, .int (nI fx), .ref fl, .ref fn, .ref li, .int (nI a6), .ref rc, .int (nI rn_), .int rb])), (fl, .inl (cI, 256, .inl (upd ffl (fx * 16) (nI fx)))), (fn, .inl (cI, 16, .inl ffn)), (li, .inl (cI, 32, .inl a7))] := hD
  refine lv_iconst (v := 0) hx hb d_World_fix_73 (by decide) ?_
  refine lv_istore (lv' := [(7, .int 0), (6, .int (nI (fx * 16))), (5, .int r8), (0, .ref h), (1, .int 2), (2, .int (nI pa1)), (3, .int (nI pa2)), (4, .int ca)]) hx hb d_World_fix_74 hl (by decide) rfl (fun ls hl => ?_)
  refine lp_W (I := fun k11 H locs ls => ∃ gl9 : Nat → Int32, (FXP ffl gl9 fx k11) ∧ va_P D cL [(h, .inr (6, [.ref st, .int (nI fx), .ref fl, .ref fn, .ref li, .int (nI a6), .ref rc, .int (nI rn_), .int rb])), (fl, .inl (cI, 256, .inl gl9)), (fn, .inl (cI, 16, .inl ffn)), (li, .inl (cI, 32, .inl a7))] H ∧ va_D A [(h, .inr (6, [.ref st, .int (nI fx), .ref fl, .ref fn, .ref li, .int (nI a6), .ref rc, .int (nI rn_), .int rb])), (fl, .inl (cI, 256, .inl gl9)), (fn, .inl (cI, 16, .inl ffn)), (li, .inl (cI, 32, .inl a7))] ∧ va_S A s.heap H locs ∧ lv_has ls 8 [(7, .int (nI k11)), (6, .int (nI (fx * 16))), (5, .int r8), (0, .ref h), (1, .int 2), (2, .int (nI pa1)), (3, .int (nI pa2)), (4, .int ca)]) (a := 0) (b := a6) (by omega) ?_ _ _ _ ⟨_, FXP.init, hP, hD, hS, lv_sub hl [0, 1, 2, 3, 4, 5, 6, 7] rfl⟩
  intro k11 H locs ls hkak11 hkbk11 hI ih12
  obtain ⟨gl9, hIk11, hP, hD, hS, hl⟩ := hI
  rcases Nat.lt_or_ge k11 a6 with hkk11 | hkk11
  · refine lv_iload hx hb d_World_fix_76 (lv_at hl 0 rfl) ?_
    refine lv_aload_n hx hb d_World_fix_78 rfl (lv_at hl 3 rfl) ?_
    refine va_get (D := D) (ci := 6) (v := .int (nI a6)) (C := "TaleMachine$World") (T := F_World) (N := 9) hx hb hts in_World hown hK hP 0 rfl rfl 5 (by decide) (hts _ k_67) (fun _ h9 => h9) rfl d_World_fix_79 ?_
    refine lv_icmp_ge hx hb d_World_fix_82 (tgt := 117) (by decide) (fun hc13 => ?_) (fun hc13 => ?_)
    · have hc13N : a6 ≤ k11 := (nI_leI (a := a6) (b := k11) (by omega) (by omega)).mp hc13
      exact absurd hc13N (by omega)
    · have hc13N : ¬ a6 ≤ k11 := fun z9 => hc13 ((nI_leI (a := a6) (b := k11) (by omega) (by omega)).mpr z9)
      refine lv_aload_n hx hb d_World_fix_85 rfl (lv_at hl 3 rfl) ?_
      refine va_get (D := D) (ci := 6) (v := .ref fl) (C := "TaleMachine$World") (T := F_World) (N := 9) hx hb hts in_World hown hK hP 0 rfl rfl 2 (by decide) (hts _ k_64) (fun _ h9 => h9) rfl d_World_fix_86 ?_
      refine lv_iload hx hb d_World_fix_89 (lv_at hl 1 rfl) ?_
      refine lv_iconst (v := 1) hx hb d_World_fix_91 (by decide) ?_
      refine lv_iadd hx hb d_World_fix_92 ?_
      refine lv_topi (fun z14 hz14 => ?_)
      obtain rfl : z14 = nI ((fx * 16) + 1) := hz14.trans (nI_add (fx * 16) 1)
      refine lv_iload hx hb d_World_fix_93 (lv_at hl 0 rfl) ?_
      refine lv_iadd hx hb d_World_fix_95 ?_
      refine lv_topi (fun z15 hz15 => ?_)
      obtain rfl : z15 = nI (((fx * 16) + 1) + k11) := hz15.trans (nI_add ((fx * 16) + 1) k11)
      refine lv_aload_n hx hb d_World_fix_96 rfl (lv_at hl 3 rfl) ?_
      refine va_get (D := D) (ci := 6) (v := .ref li) (C := "TaleMachine$World") (T := F_World) (N := 9) hx hb hts in_World hown hK hP 0 rfl rfl 4 (by decide) (hts _ k_66) (fun _ h9 => h9) rfl d_World_fix_97 ?_
      refine lv_aload_n hx hb d_World_fix_100 rfl (lv_at hl 3 rfl) ?_
      refine va_get (D := D) (ci := 6) (v := .int (nI a6)) (C := "TaleMachine$World") (T := F_World) (N := 9) hx hb hts in_World hown hK hP 0 rfl rfl 5 (by decide) (hts _ k_67) (fun _ h9 => h9) rfl d_World_fix_101 ?_
      refine lv_iconst (v := 1) hx hb d_World_fix_104 (by decide) ?_
      refine lv_isub hx hb d_World_fix_105 ?_
      refine lv_topi (fun z16 hz16 => ?_)
      obtain rfl : z16 = nI (a6 - 1) := hz16.trans (pk_sub (a := a6) (b := 1) (by omega))
      refine lv_iload hx hb d_World_fix_106 (lv_at hl 0 rfl) ?_
      refine lv_isub hx hb d_World_fix_108 ?_
      refine lv_topi (fun z17 hz17 => ?_)
      obtain rfl : z17 = nI ((a6 - 1) - k11) := hz17.trans (pk_sub (a := a6 - 1) (b := k11) (by omega))
      refine ia_ld hx hb hK hP 3 0 rfl rfl (k := (a6 - 1) - k11) (by omega) (by first | decide | assumption) d_World_fix_109 ?_
      obtain ⟨q9, hq9, hqe9⟩ := hGA.2.1 ((a6 - 1) - k11) (by omega)
      refine lv_topi (fun z18 hz18 => ?_)
      obtain rfl : z18 = (nI q9) := hz18.trans (hqe9)
      refine ia_st hx hb hK hP hD hS 1 0 rfl rfl (k := ((fx * 16) + 1) + k11) (x := (nI q9)) (by omega) (by first | decide | assumption) d_World_fix_110 (fun H locs hP hD hS => ?_)
      have hP : va_P D cL [(h, .inr (6, [.ref st, .int (nI fx), .ref fl, .ref fn, .ref li, .int (nI a6), .ref rc, .int (nI rn_), .int rb])), (fl, .inl (cI, 256, .inl (upd gl9 (((fx * 16) + 1) + k11) (nI q9)))), (fn, .inl (cI, 16, .inl ffn)), (li, .inl (cI, 32, .inl a7))] H := hP
      have hD : va_D A [(h, .inr (6, [.ref st, .int (nI fx), .ref fl, .ref fn, .ref li, .int (nI a6), .ref rc, .int (nI rn_), .int rb])), (fl, .inl (cI, 256, .inl (upd gl9 (((fx * 16) + 1) + k11) (nI q9)))), (fn, .inl (cI, 16, .inl ffn)), (li, .inl (cI, 32, .inl a7))] := hD
      refine lv_iinc (v := (nI (k11 + 1))) (lv' := [(7, .int (nI (k11 + 1))), (6, .int (nI (fx * 16))), (5, .int r8), (0, .ref h), (1, .int 2), (2, .int (nI pa1)), (3, .int (nI pa2)), (4, .int ca)]) hx hb d_World_fix_111 hl (k := 0) rfl (nI_1 k11) (by decide) rfl (fun ls hl => ?_)
      refine lv_goto hx hb d_World_fix_114 (tgt := 76) (by decide) ?_
      exact ih12 hkk11 _ _ _ ⟨_, hIk11.step hq9, hP, hD, hS, lv_sub hl [0, 1, 2, 3, 4, 5, 6, 7] rfl⟩
  · have hkk11 : k11 = a6 := by omega
    refine lv_iload hx hb d_World_fix_76 (lv_at hl 0 rfl) ?_
    refine lv_aload_n hx hb d_World_fix_78 rfl (lv_at hl 3 rfl) ?_
    refine va_get (D := D) (ci := 6) (v := .int (nI a6)) (C := "TaleMachine$World") (T := F_World) (N := 9) hx hb hts in_World hown hK hP 0 rfl rfl 5 (by decide) (hts _ k_67) (fun _ h9 => h9) rfl d_World_fix_79 ?_
    refine lv_icmp_ge hx hb d_World_fix_82 (tgt := 117) (by decide) (fun hc19 => ?_) (fun hc19 => ?_)
    · have hc19N : a6 ≤ k11 := (nI_leI (a := a6) (b := k11) (by omega) (by omega)).mp hc19
      refine lv_aload_n hx hb d_World_fix_117 rfl (lv_at hl 3 rfl) ?_
      refine va_get (D := D) (ci := 6) (v := .ref fn) (C := "TaleMachine$World") (T := F_World) (N := 9) hx hb hts in_World hown hK hP 0 rfl rfl 3 (by decide) (hts _ k_65) (fun _ h9 => h9) rfl d_World_fix_118 ?_
      refine lv_aload_n hx hb d_World_fix_121 rfl (lv_at hl 3 rfl) ?_
      refine va_get (D := D) (ci := 6) (v := .int (nI fx)) (C := "TaleMachine$World") (T := F_World) (N := 9) hx hb hts in_World hown hK hP 0 rfl rfl 1 (by decide) (hts _ k_62) (fun _ h9 => h9) rfl d_World_fix_122 ?_
      refine lv_aload_n hx hb d_World_fix_125 rfl (lv_at hl 3 rfl) ?_
      refine va_get (D := D) (ci := 6) (v := .int (nI a6)) (C := "TaleMachine$World") (T := F_World) (N := 9) hx hb hts in_World hown hK hP 0 rfl rfl 5 (by decide) (hts _ k_67) (fun _ h9 => h9) rfl d_World_fix_126 ?_
      refine lv_iconst (v := 1) hx hb d_World_fix_129 (by decide) ?_
      refine lv_iadd hx hb d_World_fix_130 ?_
      refine lv_topi (fun z20 hz20 => ?_)
      obtain rfl : z20 = nI (a6 + 1) := hz20.trans (nI_add a6 1)
      refine ia_st hx hb hK hP hD hS 2 0 rfl rfl (k := fx) (x := (nI (a6 + 1))) (by omega) (by first | decide | assumption) d_World_fix_131 (fun H locs hP hD hS => ?_)
      have hP : va_P D cL [(h, .inr (6, [.ref st, .int (nI fx), .ref fl, .ref fn, .ref li, .int (nI a6), .ref rc, .int (nI rn_), .int rb])), (fl, .inl (cI, 256, .inl gl9)), (fn, .inl (cI, 16, .inl (upd ffn fx (nI (a6 + 1))))), (li, .inl (cI, 32, .inl a7))] H := hP
      have hD : va_D A [(h, .inr (6, [.ref st, .int (nI fx), .ref fl, .ref fn, .ref li, .int (nI a6), .ref rc, .int (nI rn_), .int rb])), (fl, .inl (cI, 256, .inl gl9)), (fn, .inl (cI, 16, .inl (upd ffn fx (nI (a6 + 1))))), (li, .inl (cI, 32, .inl a7))] := hD
      refine lv_aload_n hx hb d_World_fix_132 rfl (lv_at hl 3 rfl) ?_
      refine lv_dup hx hb d_World_fix_133 rfl ?_
      refine va_get (D := D) (ci := 6) (v := .int (nI fx)) (C := "TaleMachine$World") (T := F_World) (N := 9) hx hb hts in_World hown hK hP 0 rfl rfl 1 (by decide) (hts _ k_62) (fun _ h9 => h9) rfl d_World_fix_134 ?_
      refine lv_iconst (v := 1) hx hb d_World_fix_137 (by decide) ?_
      refine lv_iadd hx hb d_World_fix_138 ?_
      refine lv_topi (fun z21 hz21 => ?_)
      obtain rfl : z21 = nI (fx + 1) := hz21.trans (nI_add fx 1)
      refine va_put (D := D) (ci := 6) (v := .int (nI (fx + 1))) (ty := .int) (C := "TaleMachine$World") (T := F_World) (N := 9) hx hb hts in_World t_World t_World_ok n_World hown hK hP hD hS 0 rfl rfl 1 (by decide) (hts _ k_62) (fun _ h9 => h9) rfl (by decide +kernel) rfl rfl (Nat.le_of_ble_eq_true rfl) d_World_fix_139 (fun H locs hP hD hS => ?_)
      have hP : va_P D cL [(h, .inr (6, [.ref st, .int (nI (fx + 1)), .ref fl, .ref fn, .ref li, .int (nI a6), .ref rc, .int (nI rn_), .int rb])), (fl, .inl (cI, 256, .inl gl9)), (fn, .inl (cI, 16, .inl (upd ffn fx (nI (a6 + 1))))), (li, .inl (cI, 32, .inl a7))] H := hP
      have hD : va_D A [(h, .inr (6, [.ref st, .int (nI (fx + 1)), .ref fl, .ref fn, .ref li, .int (nI a6), .ref rc, .int (nI rn_), .int rb])), (fl, .inl (cI, 256, .inl gl9)), (fn, .inl (cI, 16, .inl (upd ffn fx (nI (a6 + 1))))), (li, .inl (cI, 32, .inl a7))] := hD
      refine lv_aload_n hx hb d_World_fix_142 rfl (lv_at hl 3 rfl) ?_
      refine va_get (D := D) (ci := 6) (v := .int (nI (fx + 1))) (C := "TaleMachine$World") (T := F_World) (N := 9) hx hb hts in_World hown hK hP 0 rfl rfl 1 (by decide) (hts _ k_62) (fun _ h9 => h9) rfl d_World_fix_143 ?_
      refine lv_iconst (v := 1) hx hb d_World_fix_146 (by decide) ?_
      refine lv_isub hx hb d_World_fix_147 ?_
      refine lv_topi (fun z22 hz22 => ?_)
      obtain rfl : z22 = nI ((fx + 1) - 1) := hz22.trans (pk_sub (a := fx + 1) (b := 1) (by omega))
      exact end_i hx hb hr hlocks hS (u := (a6, a7, gl9, upd ffn fx (nI (a6 + 1)))) (r := (nI ((fx + 1) - 1))) (at_end (hP.sub (ws' := [(h, .inr (6, [.ref st, .int (nI (fx + 1)), .ref fl, .ref fn, .ref li, .int (nI a6), .ref rc, .int (nI rn_), .int rb])), (fl, .inl (cI, 256, .inl gl9)), (fn, .inl (cI, 16, .inl (upd ffn fx (nI (a6 + 1))))), (li, .inl (cI, 32, .inl a7))]) [0, 1, 2, 3] rfl) (hD.sub (ws' := [(h, .inr (6, [.ref st, .int (nI (fx + 1)), .ref fl, .ref fn, .ref li, .int (nI a6), .ref rc, .int (nI rn_), .int rb])), (fl, .inl (cI, 256, .inl gl9)), (fn, .inl (cI, 16, .inl (upd ffn fx (nI (a6 + 1))))), (li, .inl (cI, 32, .inl a7))]) [0, 1, 2, 3] (by decide) rfl)) (hX.new hfx hGl (by have z9 := hIk11; rw [hkk11] at z9; exact z9)) (Nat.le_of_ble_eq_true rfl) (Nat.le_of_ble_eq_true rfl) d_World_fix_148
    · have hc19N : ¬ a6 ≤ k11 := fun z9 => hc19 ((nI_leI (a := a6) (b := k11) (by omega) (by omega)).mpr z9)
      exact absurd hc19N (by omega)

set_option maxHeartbeats 4000000 in
set_option maxRecDepth 100000 in
theorem w_fix_3 (l : Launch) (D : va_G) (cI cZ cJ : ClassId) (h st fl fn li rc kd it pa : Nat) (fx le rn_ : Nat) (rb : Int32) (aa ba ca : Int32) (pa1 pa2 pa3 : Nat) (ffl ffn fli : Nat → Int32) (sz : Nat) (hfx : fx < 16) (hp1 : pa1 < fx) (hp2 : pa2 < fx) (hp3 : pa3 < fx) (hX : FXI ffl ffn fx) : Met l y_World_fix (.code y_World_fix prog_8_method_8_code 8 (some .int) :: AW) ({ frames := 1, cells := 0, slots := 0, locals := 25 }) (va_Pc [.ref h, .int 3, .int (nI pa1), .int (nI pa2), .int (nI pa3)] (pre_ D [(h, .inr (6, [.ref st, .int (nI fx), .ref fl, .ref fn, .ref li, .int (nI le), .ref rc, .int (nI rn_), .int rb])), (fl, .inl (cI, 256, .inl ffl)), (fn, .inl (cI, 16, .inl ffn)), (li, .inl (cI, 32, .inl fli))] [(cI, .int), (cZ, .boolean), (cJ, .long)] sz)) (va_Qi (fun (r : Int32) (u : Nat × (Nat → Int32) × (Nat → Int32) × (Nat → Int32)) => FXI u.2.2.1 u.2.2.2 (fx + 1)) (fun u t => match u with | (le2, g, gl, gn) => post_ D (va_A [(h, .inr (6, [.ref st, .int (nI fx), .ref fl, .ref fn, .ref li, .int (nI le), .ref rc, .int (nI rn_), .int rb])), (fl, .inl (cI, 256, .inl ffl)), (fn, .inl (cI, 16, .inl ffn)), (li, .inl (cI, 32, .inl fli))] sz) [(h, .inr (6, [.ref st, .int (nI (fx + 1)), .ref fl, .ref fn, .ref li, .int (nI le2), .ref rc, .int (nI rn_), .int rb])), (fl, .inl (cI, 256, .inl gl)), (fn, .inl (cI, 16, .inl gn)), (li, .inl (cI, 32, .inl g))] t) (va_A [(h, .inr (6, [.ref st, .int (nI fx), .ref fl, .ref fn, .ref li, .int (nI le), .ref rc, .int (nI rn_), .int rb])), (fl, .inl (cI, 256, .inl ffl)), (fn, .inl (cI, 16, .inl ffn)), (li, .inl (cI, 32, .inl fli))] sz)) 0 0 (va_A [(h, .inr (6, [.ref st, .int (nI fx), .ref fl, .ref fn, .ref li, .int (nI le), .ref rc, .int (nI rn_), .int rb])), (fl, .inl (cI, 256, .inl ffl)), (fn, .inl (cI, 16, .inl ffn)), (li, .inl (cI, 32, .inl fli))] sz) := by
  refine Met.ofW (cc := prog_8_method_8_code) (maxL := 8) (ret := (some .int)) (by decide) rfl ?_
  intro p e s m args below meth c s₁ B hml hv
  obtain ⟨rfl, rfl, hP, hK, hD0, hT⟩ := hv
  have hx := B.exec
  have hb := B.bytes
  have hr := B.returns
  have hts0 := atoms_spec (ws := .code y_World_fix prog_8_method_8_code 8 (some .int) :: AW) B.pre
  have hts : ∀ w ∈ AW, w.before [.ref h, .int 3, .int (nI pa1), .int (nI pa2), .int (nI pa3)].toArray s = true := fun w h => hts0 w (List.mem_cons_of_mem _ h)
  have hown : s.vm.findClass "TaleMachine$World" = some m.cls := findClass_of_methodNamed B.named
  have hlocks := B.notSynchronized
  have hD := hD0.self (sz := s.heap.size)
  generalize hAe : va_A [(h, .inr (6, [.ref st, .int (nI fx), .ref fl, .ref fn, .ref li, .int (nI le), .ref rc, .int (nI rn_), .int rb])), (fl, .inl (cI, 256, .inl ffl)), (fn, .inl (cI, 16, .inl ffn)), (li, .inl (cI, 32, .inl fli))] s.heap.size = A at hD ⊢
  have hA : ∀ q : Nat, s.heap.size ≤ q → A q := fun q h => by rw [← hAe]; exact Or.inr h
  have hS : va_S A s.heap s.heap [] := va_S.rf
  have hl := lv_entry ([.ref h, .int 3, .int (nI pa1), .int (nI pa2), .int (nI pa3)]) (n := 8) (Nat.le_of_ble_eq_true rfl)
  rw [lg_entry_eq]
  generalize (lg_sl ([.ref h, .int 3, .int (nI pa1), .int (nI pa2), .int (nI pa3)]) ++ List.replicate (8 - (lg_sl ([.ref h, .int 3, .int (nI pa1), .int (nI pa2), .int (nI pa3)])).length) Slot.unset).toArray = ls at hl ⊢
  have hl : lv_has ls 8 [(0, .ref h), (1, .int 3), (2, .int (nI pa1)), (3, .int (nI pa2)), (4, .int (nI pa3))] := hl
  refine lv_aload_n hx hb d_World_fix_0 rfl (lv_at hl 0 rfl) ?_
  refine lv_iconst (v := 0) hx hb d_World_fix_1 (by decide) ?_
  refine va_put (D := D) (ci := 6) (v := .int 0) (ty := .int) (C := "TaleMachine$World") (T := F_World) (N := 9) hx hb hts in_World t_World t_World_ok n_World hown hK hP hD hS 0 rfl rfl 5 (by decide) (hts _ k_67) (fun _ h9 => h9) rfl (by decide +kernel) rfl rfl (Nat.le_of_ble_eq_true rfl) d_World_fix_2 (fun H locs hP hD hS => ?_)
  have hP : va_P D cL [(h, .inr (6, [.ref st, .int (nI fx), .ref fl, .ref fn, .ref li, .int 0, .ref rc, .int (nI rn_), .int rb])), (fl, .inl (cI, 256, .inl ffl)), (fn, .inl (cI, 16, .inl ffn)), (li, .inl (cI, 32, .inl fli))] H := hP
  have hD : va_D A [(h, .inr (6, [.ref st, .int (nI fx), .ref fl, .ref fn, .ref li, .int 0, .ref rc, .int (nI rn_), .int rb])), (fl, .inl (cI, 256, .inl ffl)), (fn, .inl (cI, 16, .inl ffn)), (li, .inl (cI, 32, .inl fli))] := hD
  refine lv_iconst (v := 0) hx hb d_World_fix_5 (by decide) ?_
  refine lv_istore (lv' := [(5, .int 0), (0, .ref h), (1, .int 3), (2, .int (nI pa1)), (3, .int (nI pa2)), (4, .int (nI pa3))]) hx hb d_World_fix_6 hl (by decide) rfl (fun ls hl => ?_)
  refine lv_iload_n hx hb d_World_fix_8 rfl (lv_at hl 2 rfl) ?_
  refine lv_iconst (v := 1) hx hb d_World_fix_9 (by decide) ?_
  refine lv_isub hx hb d_World_fix_10 ?_
  refine lv_topi (fun z1 hz1 => ?_)
  obtain rfl : z1 = 2 := hz1.trans (by decide)
  refine lv_istore (lv' := [(6, .int 2), (5, .int 0), (0, .ref h), (1, .int 3), (2, .int (nI pa1)), (3, .int (nI pa2)), (4, .int (nI pa3))]) hx hb d_World_fix_11 hl (by decide) rfl (fun ls hl => ?_)
  refine lv_iload hx hb d_World_fix_13 (lv_at hl 0 rfl) ?_
  refine lv_if_lt hx hb d_World_fix_15 (tgt := 53) (by decide) (fun hz => absurd hz (by decide)) (fun _ => ?_)
  refine lv_aload_n hx hb d_World_fix_18 rfl (lv_at hl 2 rfl) ?_
  refine lv_iload hx hb d_World_fix_19 (lv_at hl 0 rfl) ?_
  refine lv_if_ne hx hb d_World_fix_21 (tgt := 28) (by decide) (fun _ => ?_) (fun hz => absurd hz (by decide))
  refine lv_iload hx hb d_World_fix_28 (lv_at hl 0 rfl) ?_
  refine lv_iconst (v := 1) hx hb d_World_fix_30 (by decide) ?_
  refine lv_icmp_ne hx hb d_World_fix_31 (tgt := 38) (by decide) (fun _ => ?_) (fun hz => absurd hz (by decide))
  refine lv_iload hx hb d_World_fix_38 (lv_at hl 6 rfl) ?_
  refine lv_iload hx hb d_World_fix_40 (lv_at hl 1 rfl) ?_
  refine mv_i (va_runV (C := "TaleMachine$World") (As := [.int (nI pa3), .int 0]) (rest := []) ⟨hx, hb, hml, hown, hts⟩ (w_gather l D cI cZ cJ h st fl fn li rc 0 0 0 fx 0 rn_ rb pa3 0 ffl ffn fli _ (by first | assumption | omega | decide) (by first | assumption | omega | decide) (by first | assumption | omega | decide) GA.zero) (cwV 2 hts (gInV k_544 k_545 k_897 k_3 k_546) rfl rfl rfl (by decide +kernel) ⟨Nat.le_of_ble_eq_true rfl, Nat.le_of_ble_eq_true rfl⟩) (pre_V (va_recv hK hP (q := ("TaleMachine$World", F_World, 9)) rfl (q0 := 0) rfl) (hP.sub [0, 1, 2, 3] rfl) (hK.sub [0, 1, 2] rfl) (hD.sub [0, 1, 2, 3] (by decide) rfl) hT) rfl rfl hl.1 rfl (lv_room (Nat.le_of_ble_eq_true rfl)) d_World_fix_42 ⟨Nat.le_of_ble_eq_true rfl, Nat.le_of_ble_eq_true rfl⟩) hP hD hS hA [0, 1, 2, 3] [] rfl rfl (by decide) (by decide) (wr := []) (wn := fun u => match u with | (le2, g) => [(h, .inr (6, [.ref st, .int (nI fx), .ref fl, .ref fn, .ref li, .int (nI le2), .ref rc, .int (nI rn_), .int rb])), (fl, .inl (cI, 256, .inl ffl)), (fn, .inl (cI, 16, .inl ffn)), (li, .inl (cI, 32, .inl g))]) (fun _ _ h9 => h9) (fun r4 u H locs hp5 hP hD hS => ?_)
  obtain ⟨a2, a3⟩ := u
  dsimp only at hp5
  have hP : va_P D cL [(h, .inr (6, [.ref st, .int (nI fx), .ref fl, .ref fn, .ref li, .int (nI a2), .ref rc, .int (nI rn_), .int rb])), (fl, .inl (cI, 256, .inl ffl)), (fn, .inl (cI, 16, .inl ffn)), (li, .inl (cI, 32, .inl a3))] H := hP
  have hD : va_D A [(h, .inr (6, [.ref st, .int (nI fx), .ref fl, .ref fn, .ref li, .int (nI a2), .ref rc, .int (nI rn_), .int rb])), (fl, .inl (cI, 256, .inl ffl)), (fn, .inl (cI, 16, .inl ffn)), (li, .inl (cI, 32, .inl a3))] := hD
  refine lv_istore (lv' := [(5, .int r4), (6, .int 2), (0, .ref h), (1, .int 3), (2, .int (nI pa1)), (3, .int (nI pa2)), (4, .int (nI pa3))]) hx hb d_World_fix_45 hl (by decide) rfl (fun ls hl => ?_)
  refine lv_iinc (v := 1) (lv' := [(6, .int 1), (5, .int r4), (0, .ref h), (1, .int 3), (2, .int (nI pa1)), (3, .int (nI pa2)), (4, .int (nI pa3))]) hx hb d_World_fix_47 hl (k := 1) rfl (by decide) (by decide) rfl (fun ls hl => ?_)
  refine lv_goto hx hb d_World_fix_50 (tgt := 13) (by decide) ?_
  refine lv_iload hx hb d_World_fix_13 (lv_at hl 0 rfl) ?_
  refine lv_if_lt hx hb d_World_fix_15 (tgt := 53) (by decide) (fun hz => absurd hz (by decide)) (fun _ => ?_)
  refine lv_aload_n hx hb d_World_fix_18 rfl (lv_at hl 2 rfl) ?_
  refine lv_iload hx hb d_World_fix_19 (lv_at hl 0 rfl) ?_
  refine lv_if_ne hx hb d_World_fix_21 (tgt := 28) (by decide) (fun _ => ?_) (fun hz => absurd hz (by decide))
  refine lv_iload hx hb d_World_fix_28 (lv_at hl 0 rfl) ?_
  refine lv_iconst (v := 1) hx hb d_World_fix_30 (by decide) ?_
  refine lv_icmp_ne hx hb d_World_fix_31 (tgt := 38) (by decide) (fun hz => absurd (by decide) hz) (fun _ => ?_)
  refine lv_iload_n hx hb d_World_fix_34 rfl (lv_at hl 5 rfl) ?_
  refine lv_goto hx hb d_World_fix_35 (tgt := 40) (by decide) ?_
  refine lv_iload hx hb d_World_fix_40 (lv_at hl 1 rfl) ?_
  refine mv_i (va_runV (C := "TaleMachine$World") (As := [.int (nI pa2), .int r4]) (rest := []) ⟨hx, hb, hml, hown, hts⟩ (w_gather l D cI cZ cJ h st fl fn li rc 0 0 0 fx a2 rn_ rb pa2 r4 ffl ffn a3 _ (by first | assumption | omega | decide) (by first | assumption | omega | decide) (by first | assumption | omega | decide) hp5) (cwV 2 hts (gInV k_544 k_545 k_897 k_3 k_546) rfl rfl rfl (by decide +kernel) ⟨Nat.le_of_ble_eq_true rfl, Nat.le_of_ble_eq_true rfl⟩) (pre_V (va_recv hK hP (q := ("TaleMachine$World", F_World, 9)) rfl (q0 := 0) rfl) (hP.sub [0, 1, 2, 3] rfl) (hK.sub [0, 1, 2] rfl) (hD.sub [0, 1, 2, 3] (by decide) rfl) hT) rfl rfl hl.1 rfl (lv_room (Nat.le_of_ble_eq_true rfl)) d_World_fix_42 ⟨Nat.le_of_ble_eq_true rfl, Nat.le_of_ble_eq_true rfl⟩) hP hD hS hA [0, 1, 2, 3] [] rfl rfl (by decide) (by decide) (wr := []) (wn := fun u => match u with | (le2, g) => [(h, .inr (6, [.ref st, .int (nI fx), .ref fl, .ref fn, .ref li, .int (nI le2), .ref rc, .int (nI rn_), .int rb])), (fl, .inl (cI, 256, .inl ffl)), (fn, .inl (cI, 16, .inl ffn)), (li, .inl (cI, 32, .inl g))]) (fun _ _ h9 => h9) (fun r8 u H locs hp9 hP hD hS => ?_)
  obtain ⟨a6, a7⟩ := u
  dsimp only at hp9
  have hP : va_P D cL [(h, .inr (6, [.ref st, .int (nI fx), .ref fl, .ref fn, .ref li, .int (nI a6), .ref rc, .int (nI rn_), .int rb])), (fl, .inl (cI, 256, .inl ffl)), (fn, .inl (cI, 16, .inl ffn)), (li, .inl (cI, 32, .inl a7))] H := hP
  have hD : va_D A [(h, .inr (6, [.ref st, .int (nI fx), .ref fl, .ref fn, .ref li, .int (nI a6), .ref rc, .int (nI rn_), .int rb])), (fl, .inl (cI, 256, .inl ffl)), (fn, .inl (cI, 16, .inl ffn)), (li, .inl (cI, 32, .inl a7))] := hD
  refine lv_istore (lv' := [(5, .int r8), (6, .int 1), (0, .ref h), (1, .int 3), (2, .int (nI pa1)), (3, .int (nI pa2)), (4, .int (nI pa3))]) hx hb d_World_fix_45 hl (by decide) rfl (fun ls hl => ?_)
  refine lv_iinc (v := 0) (lv' := [(6, .int 0), (5, .int r8), (0, .ref h), (1, .int 3), (2, .int (nI pa1)), (3, .int (nI pa2)), (4, .int (nI pa3))]) hx hb d_World_fix_47 hl (k := 1) rfl (by decide) (by decide) rfl (fun ls hl => ?_)
  refine lv_goto hx hb d_World_fix_50 (tgt := 13) (by decide) ?_
  refine lv_iload hx hb d_World_fix_13 (lv_at hl 0 rfl) ?_
  refine lv_if_lt hx hb d_World_fix_15 (tgt := 53) (by decide) (fun hz => absurd hz (by decide)) (fun _ => ?_)
  refine lv_aload_n hx hb d_World_fix_18 rfl (lv_at hl 2 rfl) ?_
  refine lv_iload hx hb d_World_fix_19 (lv_at hl 0 rfl) ?_
  refine lv_if_ne hx hb d_World_fix_21 (tgt := 28) (by decide) (fun hz => absurd (by decide) hz) (fun _ => ?_)
  refine lv_iload_n hx hb d_World_fix_24 rfl (lv_at hl 4 rfl) ?_
  refine lv_goto hx hb d_World_fix_25 (tgt := 40) (by decide) ?_
  refine lv_iload hx hb d_World_fix_40 (lv_at hl 1 rfl) ?_
  refine mv_i (va_runV (C := "TaleMachine$World") (As := [.int (nI pa1), .int r8]) (rest := []) ⟨hx, hb, hml, hown, hts⟩ (w_gather l D cI cZ cJ h st fl fn li rc 0 0 0 fx a6 rn_ rb pa1 r8 ffl ffn a7 _ (by first | assumption | omega | decide) (by first | assumption | omega | decide) (by first | assumption | omega | decide) hp9) (cwV 2 hts (gInV k_544 k_545 k_897 k_3 k_546) rfl rfl rfl (by decide +kernel) ⟨Nat.le_of_ble_eq_true rfl, Nat.le_of_ble_eq_true rfl⟩) (pre_V (va_recv hK hP (q := ("TaleMachine$World", F_World, 9)) rfl (q0 := 0) rfl) (hP.sub [0, 1, 2, 3] rfl) (hK.sub [0, 1, 2] rfl) (hD.sub [0, 1, 2, 3] (by decide) rfl) hT) rfl rfl hl.1 rfl (lv_room (Nat.le_of_ble_eq_true rfl)) d_World_fix_42 ⟨Nat.le_of_ble_eq_true rfl, Nat.le_of_ble_eq_true rfl⟩) hP hD hS hA [0, 1, 2, 3] [] rfl rfl (by decide) (by decide) (wr := []) (wn := fun u => match u with | (le2, g) => [(h, .inr (6, [.ref st, .int (nI fx), .ref fl, .ref fn, .ref li, .int (nI le2), .ref rc, .int (nI rn_), .int rb])), (fl, .inl (cI, 256, .inl ffl)), (fn, .inl (cI, 16, .inl ffn)), (li, .inl (cI, 32, .inl g))]) (fun _ _ h9 => h9) (fun r12 u H locs hp13 hP hD hS => ?_)
  obtain ⟨a10, a11⟩ := u
  dsimp only at hp13
  have hP : va_P D cL [(h, .inr (6, [.ref st, .int (nI fx), .ref fl, .ref fn, .ref li, .int (nI a10), .ref rc, .int (nI rn_), .int rb])), (fl, .inl (cI, 256, .inl ffl)), (fn, .inl (cI, 16, .inl ffn)), (li, .inl (cI, 32, .inl a11))] H := hP
  have hD : va_D A [(h, .inr (6, [.ref st, .int (nI fx), .ref fl, .ref fn, .ref li, .int (nI a10), .ref rc, .int (nI rn_), .int rb])), (fl, .inl (cI, 256, .inl ffl)), (fn, .inl (cI, 16, .inl ffn)), (li, .inl (cI, 32, .inl a11))] := hD
  refine lv_istore (lv' := [(5, .int r12), (6, .int 0), (0, .ref h), (1, .int 3), (2, .int (nI pa1)), (3, .int (nI pa2)), (4, .int (nI pa3))]) hx hb d_World_fix_45 hl (by decide) rfl (fun ls hl => ?_)
  refine lv_iinc (v := (-1)) (lv' := [(6, .int (-1)), (5, .int r12), (0, .ref h), (1, .int 3), (2, .int (nI pa1)), (3, .int (nI pa2)), (4, .int (nI pa3))]) hx hb d_World_fix_47 hl (k := 1) rfl (by decide) (by decide) rfl (fun ls hl => ?_)
  refine lv_goto hx hb d_World_fix_50 (tgt := 13) (by decide) ?_
  refine lv_iload hx hb d_World_fix_13 (lv_at hl 0 rfl) ?_
  refine lv_if_lt hx hb d_World_fix_15 (tgt := 53) (by decide) (fun _ => ?_) (fun hz => absurd (by decide) hz)
  have hGA := hp13
  have hGl := hGA.le
  refine lv_aload_n hx hb d_World_fix_53 rfl (lv_at hl 2 rfl) ?_
  refine va_get (D := D) (ci := 6) (v := .int (nI fx)) (C := "TaleMachine$World") (T := F_World) (N := 9) hx hb hts in_World hown hK hP 0 rfl rfl 1 (by decide) (hts _ k_62) (fun _ h9 => h9) rfl d_World_fix_54 ?_
  refine lv_bipush (v := 16) hx hb d_World_fix_57 (by decide) ?_
  refine lv_imul hx hb d_World_fix_59 ?_
  refine lv_topi (fun z14 hz14 => ?_)
  obtain rfl : z14 = nI (fx * 16) := hz14.trans (pk_mul fx 16)
  refine lv_istore (lv' := [(6, .int (nI (fx * 16))), (5, .int r12), (0, .ref h), (1, .int 3), (2, .int (nI pa1)), (3, .int (nI pa2)), (4, .int (nI pa3))]) hx hb d_World_fix_60 hl (by decide) rfl (fun ls hl => ?_)
  refine lv_aload_n hx hb d_World_fix_62 rfl (lv_at hl 2 rfl) ?_
  refine va_get (D := D) (ci := 6) (v := .ref fl) (C := "TaleMachine$World") (T := F_World) (N := 9) hx hb hts in_World hown hK hP 0 rfl rfl 2 (by decide) (hts _ k_64) (fun _ h9 => h9) rfl d_World_fix_63 ?_
  refine lv_iload hx hb d_World_fix_66 (lv_at hl 0 rfl) ?_
  refine lv_aload_n hx hb d_World_fix_68 rfl (lv_at hl 2 rfl) ?_
  refine va_get (D := D) (ci := 6) (v := .int (nI fx)) (C := "TaleMachine$World") (T := F_World) (N := 9) hx hb hts in_World hown hK hP 0 rfl rfl 1 (by decide) (hts _ k_62) (fun _ h9 => h9) rfl d_World_fix_69 ?_
  refine ia_st hx hb hK hP hD hS 1 0 rfl rfl (k := fx * 16) (x := (nI fx)) (by omega) (by first | decide | assumption) d_World_fix_72 (fun H locs hP hD hS => ?_)
  have hP : va_P D cL [(h, .inr (6, [.ref st, .int (nI fx), .ref fl, .ref fn, .ref li, .int (nI a10), .ref rc, .int (nI rn_), .int rb])), (fl, .inl (cI, 256, .inl (upd ffl (fx * 16) (nI fx)))), (fn, .inl (cI, 16, .inl ffn)), (li, .inl (cI, 32, .inl a11))] H := hP
  have hD : va_D A [(h, .inr (6, [.ref st, .int (nI fx), .ref fl, .ref fn, .ref li, .int (nI a10), .ref rc, .int (nI rn_), .int rb])), (fl, .inl (cI, 256, .inl (upd ffl (fx * 16) (nI fx)))), (fn, .inl (cI, 16, .inl ffn)), (li, .inl (cI, 32, .inl a11))] := hD
  refine lv_iconst (v := 0) hx hb d_World_fix_73 (by decide) ?_
  refine lv_istore (lv' := [(7, .int 0), (6, .int (nI (fx * 16))), (5, .int r12), (0, .ref h), (1, .int 3), (2, .int (nI pa1)), (3, .int (nI pa2)), (4, .int (nI pa3))]) hx hb d_World_fix_74 hl (by decide) rfl (fun ls hl => ?_)
  refine lp_W (I := fun k15 H locs ls => ∃ gl9 : Nat → Int32, (FXP ffl gl9 fx k15) ∧ va_P D cL [(h, .inr (6, [.ref st, .int (nI fx), .ref fl, .ref fn, .ref li, .int (nI a10), .ref rc, .int (nI rn_), .int rb])), (fl, .inl (cI, 256, .inl gl9)), (fn, .inl (cI, 16, .inl ffn)), (li, .inl (cI, 32, .inl a11))] H ∧ va_D A [(h, .inr (6, [.ref st, .int (nI fx), .ref fl, .ref fn, .ref li, .int (nI a10), .ref rc, .int (nI rn_), .int rb])), (fl, .inl (cI, 256, .inl gl9)), (fn, .inl (cI, 16, .inl ffn)), (li, .inl (cI, 32, .inl a11))] ∧ va_S A s.heap H locs ∧ lv_has ls 8 [(7, .int (nI k15)), (6, .int (nI (fx * 16))), (5, .int r12), (0, .ref h), (1, .int 3), (2, .int (nI pa1)), (3, .int (nI pa2)), (4, .int (nI pa3))]) (a := 0) (b := a10) (by omega) ?_ _ _ _ ⟨_, FXP.init, hP, hD, hS, lv_sub hl [0, 1, 2, 3, 4, 5, 6, 7] rfl⟩
  intro k15 H locs ls hkak15 hkbk15 hI ih16
  obtain ⟨gl9, hIk15, hP, hD, hS, hl⟩ := hI
  rcases Nat.lt_or_ge k15 a10 with hkk15 | hkk15
  · refine lv_iload hx hb d_World_fix_76 (lv_at hl 0 rfl) ?_
    refine lv_aload_n hx hb d_World_fix_78 rfl (lv_at hl 3 rfl) ?_
    refine va_get (D := D) (ci := 6) (v := .int (nI a10)) (C := "TaleMachine$World") (T := F_World) (N := 9) hx hb hts in_World hown hK hP 0 rfl rfl 5 (by decide) (hts _ k_67) (fun _ h9 => h9) rfl d_World_fix_79 ?_
    refine lv_icmp_ge hx hb d_World_fix_82 (tgt := 117) (by decide) (fun hc17 => ?_) (fun hc17 => ?_)
    · have hc17N : a10 ≤ k15 := (nI_leI (a := a10) (b := k15) (by omega) (by omega)).mp hc17
      exact absurd hc17N (by omega)
    · have hc17N : ¬ a10 ≤ k15 := fun z9 => hc17 ((nI_leI (a := a10) (b := k15) (by omega) (by omega)).mpr z9)
      refine lv_aload_n hx hb d_World_fix_85 rfl (lv_at hl 3 rfl) ?_
      refine va_get (D := D) (ci := 6) (v := .ref fl) (C := "TaleMachine$World") (T := F_World) (N := 9) hx hb hts in_World hown hK hP 0 rfl rfl 2 (by decide) (hts _ k_64) (fun _ h9 => h9) rfl d_World_fix_86 ?_
      refine lv_iload hx hb d_World_fix_89 (lv_at hl 1 rfl) ?_
      refine lv_iconst (v := 1) hx hb d_World_fix_91 (by decide) ?_
      refine lv_iadd hx hb d_World_fix_92 ?_
      refine lv_topi (fun z18 hz18 => ?_)
      obtain rfl : z18 = nI ((fx * 16) + 1) := hz18.trans (nI_add (fx * 16) 1)
      refine lv_iload hx hb d_World_fix_93 (lv_at hl 0 rfl) ?_
      refine lv_iadd hx hb d_World_fix_95 ?_
      refine lv_topi (fun z19 hz19 => ?_)
      obtain rfl : z19 = nI (((fx * 16) + 1) + k15) := hz19.trans (nI_add ((fx * 16) + 1) k15)
      refine lv_aload_n hx hb d_World_fix_96 rfl (lv_at hl 3 rfl) ?_
      refine va_get (D := D) (ci := 6) (v := .ref li) (C := "TaleMachine$World") (T := F_World) (N := 9) hx hb hts in_World hown hK hP 0 rfl rfl 4 (by decide) (hts _ k_66) (fun _ h9 => h9) rfl d_World_fix_97 ?_
      refine lv_aload_n hx hb d_World_fix_100 rfl (lv_at hl 3 rfl) ?_
      refine va_get (D := D) (ci := 6) (v := .int (nI a10)) (C := "TaleMachine$World") (T := F_World) (N := 9) hx hb hts in_World hown hK hP 0 rfl rfl 5 (by decide) (hts _ k_67) (fun _ h9 => h9) rfl d_World_fix_101 ?_
      refine lv_iconst (v := 1) hx hb d_World_fix_104 (by decide) ?_
      refine lv_isub hx hb d_World_fix_105 ?_
      refine lv_topi (fun z20 hz20 => ?_)
      obtain rfl : z20 = nI (a10 - 1) := hz20.trans (pk_sub (a := a10) (b := 1) (by omega))
      refine lv_iload hx hb d_World_fix_106 (lv_at hl 0 rfl) ?_
      refine lv_isub hx hb d_World_fix_108 ?_
      refine lv_topi (fun z21 hz21 => ?_)
      obtain rfl : z21 = nI ((a10 - 1) - k15) := hz21.trans (pk_sub (a := a10 - 1) (b := k15) (by omega))
      refine ia_ld hx hb hK hP 3 0 rfl rfl (k := (a10 - 1) - k15) (by omega) (by first | decide | assumption) d_World_fix_109 ?_
      obtain ⟨q9, hq9, hqe9⟩ := hGA.2.1 ((a10 - 1) - k15) (by omega)
      refine lv_topi (fun z22 hz22 => ?_)
      obtain rfl : z22 = (nI q9) := hz22.trans (hqe9)
      refine ia_st hx hb hK hP hD hS 1 0 rfl rfl (k := ((fx * 16) + 1) + k15) (x := (nI q9)) (by omega) (by first | decide | assumption) d_World_fix_110 (fun H locs hP hD hS => ?_)
      have hP : va_P D cL [(h, .inr (6, [.ref st, .int (nI fx), .ref fl, .ref fn, .ref li, .int (nI a10), .ref rc, .int (nI rn_), .int rb])), (fl, .inl (cI, 256, .inl (upd gl9 (((fx * 16) + 1) + k15) (nI q9)))), (fn, .inl (cI, 16, .inl ffn)), (li, .inl (cI, 32, .inl a11))] H := hP
      have hD : va_D A [(h, .inr (6, [.ref st, .int (nI fx), .ref fl, .ref fn, .ref li, .int (nI a10), .ref rc, .int (nI rn_), .int rb])), (fl, .inl (cI, 256, .inl (upd gl9 (((fx * 16) + 1) + k15) (nI q9)))), (fn, .inl (cI, 16, .inl ffn)), (li, .inl (cI, 32, .inl a11))] := hD
      refine lv_iinc (v := (nI (k15 + 1))) (lv' := [(7, .int (nI (k15 + 1))), (6, .int (nI (fx * 16))), (5, .int r12), (0, .ref h), (1, .int 3), (2, .int (nI pa1)), (3, .int (nI pa2)), (4, .int (nI pa3))]) hx hb d_World_fix_111 hl (k := 0) rfl (nI_1 k15) (by decide) rfl (fun ls hl => ?_)
      refine lv_goto hx hb d_World_fix_114 (tgt := 76) (by decide) ?_
      exact ih16 hkk15 _ _ _ ⟨_, hIk15.step hq9, hP, hD, hS, lv_sub hl [0, 1, 2, 3, 4, 5, 6, 7] rfl⟩
  · have hkk15 : k15 = a10 := by omega
    refine lv_iload hx hb d_World_fix_76 (lv_at hl 0 rfl) ?_
    refine lv_aload_n hx hb d_World_fix_78 rfl (lv_at hl 3 rfl) ?_
    refine va_get (D := D) (ci := 6) (v := .int (nI a10)) (C := "TaleMachine$World") (T := F_World) (N := 9) hx hb hts in_World hown hK hP 0 rfl rfl 5 (by decide) (hts _ k_67) (fun _ h9 => h9) rfl d_World_fix_79 ?_
    refine lv_icmp_ge hx hb d_World_fix_82 (tgt := 117) (by decide) (fun hc23 => ?_) (fun hc23 => ?_)
    · have hc23N : a10 ≤ k15 := (nI_leI (a := a10) (b := k15) (by omega) (by omega)).mp hc23
      refine lv_aload_n hx hb d_World_fix_117 rfl (lv_at hl 3 rfl) ?_
      refine va_get (D := D) (ci := 6) (v := .ref fn) (C := "TaleMachine$World") (T := F_World) (N := 9) hx hb hts in_World hown hK hP 0 rfl rfl 3 (by decide) (hts _ k_65) (fun _ h9 => h9) rfl d_World_fix_118 ?_
      refine lv_aload_n hx hb d_World_fix_121 rfl (lv_at hl 3 rfl) ?_
      refine va_get (D := D) (ci := 6) (v := .int (nI fx)) (C := "TaleMachine$World") (T := F_World) (N := 9) hx hb hts in_World hown hK hP 0 rfl rfl 1 (by decide) (hts _ k_62) (fun _ h9 => h9) rfl d_World_fix_122 ?_
      refine lv_aload_n hx hb d_World_fix_125 rfl (lv_at hl 3 rfl) ?_
      refine va_get (D := D) (ci := 6) (v := .int (nI a10)) (C := "TaleMachine$World") (T := F_World) (N := 9) hx hb hts in_World hown hK hP 0 rfl rfl 5 (by decide) (hts _ k_67) (fun _ h9 => h9) rfl d_World_fix_126 ?_
      refine lv_iconst (v := 1) hx hb d_World_fix_129 (by decide) ?_
      refine lv_iadd hx hb d_World_fix_130 ?_
      refine lv_topi (fun z24 hz24 => ?_)
      obtain rfl : z24 = nI (a10 + 1) := hz24.trans (nI_add a10 1)
      refine ia_st hx hb hK hP hD hS 2 0 rfl rfl (k := fx) (x := (nI (a10 + 1))) (by omega) (by first | decide | assumption) d_World_fix_131 (fun H locs hP hD hS => ?_)
      have hP : va_P D cL [(h, .inr (6, [.ref st, .int (nI fx), .ref fl, .ref fn, .ref li, .int (nI a10), .ref rc, .int (nI rn_), .int rb])), (fl, .inl (cI, 256, .inl gl9)), (fn, .inl (cI, 16, .inl (upd ffn fx (nI (a10 + 1))))), (li, .inl (cI, 32, .inl a11))] H := hP
      have hD : va_D A [(h, .inr (6, [.ref st, .int (nI fx), .ref fl, .ref fn, .ref li, .int (nI a10), .ref rc, .int (nI rn_), .int rb])), (fl, .inl (cI, 256, .inl gl9)), (fn, .inl (cI, 16, .inl (upd ffn fx (nI (a10 + 1))))), (li, .inl (cI, 32, .inl a11))] := hD
      refine lv_aload_n hx hb d_World_fix_132 rfl (lv_at hl 3 rfl) ?_
      refine lv_dup hx hb d_World_fix_133 rfl ?_
      refine va_get (D := D) (ci := 6) (v := .int (nI fx)) (C := "TaleMachine$World") (T := F_World) (N := 9) hx hb hts in_World hown hK hP 0 rfl rfl 1 (by decide) (hts _ k_62) (fun _ h9 => h9) rfl d_World_fix_134 ?_
      refine lv_iconst (v := 1) hx hb d_World_fix_137 (by decide) ?_
      refine lv_iadd hx hb d_World_fix_138 ?_
      refine lv_topi (fun z25 hz25 => ?_)
      obtain rfl : z25 = nI (fx + 1) := hz25.trans (nI_add fx 1)
      refine va_put (D := D) (ci := 6) (v := .int (nI (fx + 1))) (ty := .int) (C := "TaleMachine$World") (T := F_World) (N := 9) hx hb hts in_World t_World t_World_ok n_World hown hK hP hD hS 0 rfl rfl 1 (by decide) (hts _ k_62) (fun _ h9 => h9) rfl (by decide +kernel) rfl rfl (Nat.le_of_ble_eq_true rfl) d_World_fix_139 (fun H locs hP hD hS => ?_)
      have hP : va_P D cL [(h, .inr (6, [.ref st, .int (nI (fx + 1)), .ref fl, .ref fn, .ref li, .int (nI a10), .ref rc, .int (nI rn_), .int rb])), (fl, .inl (cI, 256, .inl gl9)), (fn, .inl (cI, 16, .inl (upd ffn fx (nI (a10 + 1))))), (li, .inl (cI, 32, .inl a11))] H := hP
      have hD : va_D A [(h, .inr (6, [.ref st, .int (nI (fx + 1)), .ref fl, .ref fn, .ref li, .int (nI a10), .ref rc, .int (nI rn_), .int rb])), (fl, .inl (cI, 256, .inl gl9)), (fn, .inl (cI, 16, .inl (upd ffn fx (nI (a10 + 1))))), (li, .inl (cI, 32, .inl a11))] := hD
      refine lv_aload_n hx hb d_World_fix_142 rfl (lv_at hl 3 rfl) ?_
      refine va_get (D := D) (ci := 6) (v := .int (nI (fx + 1))) (C := "TaleMachine$World") (T := F_World) (N := 9) hx hb hts in_World hown hK hP 0 rfl rfl 1 (by decide) (hts _ k_62) (fun _ h9 => h9) rfl d_World_fix_143 ?_
      refine lv_iconst (v := 1) hx hb d_World_fix_146 (by decide) ?_
      refine lv_isub hx hb d_World_fix_147 ?_
      refine lv_topi (fun z26 hz26 => ?_)
      obtain rfl : z26 = nI ((fx + 1) - 1) := hz26.trans (pk_sub (a := fx + 1) (b := 1) (by omega))
      exact end_i hx hb hr hlocks hS (u := (a10, a11, gl9, upd ffn fx (nI (a10 + 1)))) (r := (nI ((fx + 1) - 1))) (at_end (hP.sub (ws' := [(h, .inr (6, [.ref st, .int (nI (fx + 1)), .ref fl, .ref fn, .ref li, .int (nI a10), .ref rc, .int (nI rn_), .int rb])), (fl, .inl (cI, 256, .inl gl9)), (fn, .inl (cI, 16, .inl (upd ffn fx (nI (a10 + 1))))), (li, .inl (cI, 32, .inl a11))]) [0, 1, 2, 3] rfl) (hD.sub (ws' := [(h, .inr (6, [.ref st, .int (nI (fx + 1)), .ref fl, .ref fn, .ref li, .int (nI a10), .ref rc, .int (nI rn_), .int rb])), (fl, .inl (cI, 256, .inl gl9)), (fn, .inl (cI, 16, .inl (upd ffn fx (nI (a10 + 1))))), (li, .inl (cI, 32, .inl a11))]) [0, 1, 2, 3] (by decide) rfl)) (hX.new hfx hGl (by have z9 := hIk15; rw [hkk15] at z9; exact z9)) (Nat.le_of_ble_eq_true rfl) (Nat.le_of_ble_eq_true rfl) d_World_fix_148
    · have hc23N : ¬ a10 ≤ k15 := fun z9 => hc23 ((nI_leI (a := a10) (b := k15) (by omega) (by omega)).mpr z9)
      exact absurd hc23N (by omega)

set_option maxHeartbeats 4000000 in
set_option maxRecDepth 100000 in
theorem s_atv (l : Launch) (D : va_G) (cI cZ cJ : ClassId) (h by_ : Nat) (ln : Nat) (fb : Nat → Int32) (ad : Int32) (sz : Nat) (hln : ln ≤ 300) : Met l y_Script_at (.code y_Script_at prog_4_method_3_code 2 (some .int) :: AW) ({ frames := 0, cells := 0, slots := 0, locals := 0 }) (va_Pc [.ref h, .int ad] (pre_ D [(h, .inr (2, [.ref by_, .int (nI ln)])), (by_, .inl (cI, 300, .inl fb))] [(cI, .int), (cZ, .boolean), (cJ, .long)] sz)) (va_Qi (fun (r : Int32) (u : Unit) => r = satv fb ln ad) (fun _ t => post_ D (va_A [(h, .inr (2, [.ref by_, .int (nI ln)])), (by_, .inl (cI, 300, .inl fb))] sz) [(h, .inr (2, [.ref by_, .int (nI ln)])), (by_, .inl (cI, 300, .inl fb))] t) (va_A [(h, .inr (2, [.ref by_, .int (nI ln)])), (by_, .inl (cI, 300, .inl fb))] sz)) 0 0 (va_A [(h, .inr (2, [.ref by_, .int (nI ln)])), (by_, .inl (cI, 300, .inl fb))] sz) := by
  refine Met.ofW (cc := prog_4_method_3_code) (maxL := 2) (ret := (some .int)) (by decide) rfl ?_
  intro p e s m args below meth c s₁ B hml hv
  obtain ⟨rfl, rfl, hP, hK, hD0, hT⟩ := hv
  have hx := B.exec
  have hb := B.bytes
  have hr := B.returns
  have hts0 := atoms_spec (ws := .code y_Script_at prog_4_method_3_code 2 (some .int) :: AW) B.pre
  have hts : ∀ w ∈ AW, w.before [.ref h, .int ad].toArray s = true := fun w h => hts0 w (List.mem_cons_of_mem _ h)
  have hown : s.vm.findClass "TaleMachine$Script" = some m.cls := findClass_of_methodNamed B.named
  have hlocks := B.notSynchronized
  have hD := hD0.self (sz := s.heap.size)
  generalize hAe : va_A [(h, .inr (2, [.ref by_, .int (nI ln)])), (by_, .inl (cI, 300, .inl fb))] s.heap.size = A at hD ⊢
  have hA : ∀ q : Nat, s.heap.size ≤ q → A q := fun q h => by rw [← hAe]; exact Or.inr h
  have hS : va_S A s.heap s.heap [] := va_S.rf
  have hl := lv_entry ([.ref h, .int ad]) (n := 2) (Nat.le_of_ble_eq_true rfl)
  rw [lg_entry_eq]
  generalize (lg_sl ([.ref h, .int ad]) ++ List.replicate (2 - (lg_sl ([.ref h, .int ad])).length) Slot.unset).toArray = ls at hl ⊢
  have hl : lv_has ls 2 [(0, .ref h), (1, .int ad)] := hl
  refine lv_iload_n hx hb d_Script_at_0 rfl (lv_at hl 1 rfl) ?_
  refine lv_if_lt hx hb d_Script_at_1 (tgt := 21) (by decide) (fun hc1 => ?_) (fun hc1 => ?_)
  · refine lv_iconst (v := (-1)) hx hb d_Script_at_21 (by decide) ?_
    exact end_i hx hb hr hlocks hS (u := ()) (r := (-1)) (at_end (hP.sub (ws' := [(h, .inr (2, [.ref by_, .int (nI ln)])), (by_, .inl (cI, 300, .inl fb))]) [0, 1] rfl) (hD.sub (ws' := [(h, .inr (2, [.ref by_, .int (nI ln)])), (by_, .inl (cI, 300, .inl fb))]) [0, 1] (by decide) rfl)) (satv_neg hc1) (Nat.le_of_ble_eq_true rfl) (Nat.le_of_ble_eq_true rfl) d_Script_at_22
  · refine lv_iload_n hx hb d_Script_at_4 rfl (lv_at hl 1 rfl) ?_
    refine lv_aload_n hx hb d_Script_at_5 rfl (lv_at hl 0 rfl) ?_
    refine va_get (D := D) (ci := 2) (v := .int (nI ln)) (C := "TaleMachine$Script") (T := F_Script) (N := 2) hx hb hts in_Script hown hK hP 0 rfl rfl 1 (by decide) (hts _ k_33) (fun _ h9 => h9) rfl d_Script_at_6 ?_
    refine lv_icmp_ge hx hb d_Script_at_9 (tgt := 21) (by decide) (fun hc2 => ?_) (fun hc2 => ?_)
    · refine lv_iconst (v := (-1)) hx hb d_Script_at_21 (by decide) ?_
      exact end_i hx hb hr hlocks hS (u := ()) (r := (-1)) (at_end (hP.sub (ws' := [(h, .inr (2, [.ref by_, .int (nI ln)])), (by_, .inl (cI, 300, .inl fb))]) [0, 1] rfl) (hD.sub (ws' := [(h, .inr (2, [.ref by_, .int (nI ln)])), (by_, .inl (cI, 300, .inl fb))]) [0, 1] (by decide) rfl)) (satv_out hln hc1 hc2) (Nat.le_of_ble_eq_true rfl) (Nat.le_of_ble_eq_true rfl) d_Script_at_22
    · refine lv_aload_n hx hb d_Script_at_12 rfl (lv_at hl 0 rfl) ?_
      refine va_get (D := D) (ci := 2) (v := .ref by_) (C := "TaleMachine$Script") (T := F_Script) (N := 2) hx hb hts in_Script hown hK hP 0 rfl rfl 0 (by decide) (hts _ k_32) (fun _ h9 => h9) rfl d_Script_at_13 ?_
      refine lv_iload_n hx hb d_Script_at_16 rfl (lv_at hl 1 rfl) ?_
      obtain ⟨j, hj, hje⟩ := sat_ix hln hc1 hc2
      refine lv_topi (fun z3 hz3 => ?_)
      obtain rfl : z3 = (nI j) := hz3.trans (hje)
      refine ia_ld hx hb hK hP 1 0 rfl rfl (k := j) (by omega) (by first | decide | assumption) d_Script_at_17 ?_
      refine lv_goto hx hb d_Script_at_18 (tgt := 22) (by decide) ?_
      exact end_i hx hb hr hlocks hS (u := ()) (r := (fb j)) (at_end (hP.sub (ws' := [(h, .inr (2, [.ref by_, .int (nI ln)])), (by_, .inl (cI, 300, .inl fb))]) [0, 1] rfl) (hD.sub (ws' := [(h, .inr (2, [.ref by_, .int (nI ln)])), (by_, .inl (cI, 300, .inl fb))]) [0, 1] (by decide) rfl)) (by rw [hje]; exact satv_in hj hln) (Nat.le_of_ble_eq_true rfl) (Nat.le_of_ble_eq_true rfl) d_Script_at_22

set_option maxHeartbeats 4000000 in
set_option maxRecDepth 100000 in
theorem s_locals2 (l : Launch) (D : va_G) (cI cZ cJ : ClassId) (h by_ : Nat) (ln : Nat) (fb : Nat → Int32) (ad : Int32) (sz : Nat) (hln : ln ≤ 300) : Met l y_Script_locals (.code y_Script_locals prog_4_method_9_code 2 (some .int) :: AW) ({ frames := 1, cells := 0, slots := 0, locals := 21 }) (va_Pc [.ref h, .int ad] (pre_ D [(h, .inr (2, [.ref by_, .int (nI ln)])), (by_, .inl (cI, 300, .inl fb))] [(cI, .int), (cZ, .boolean), (cJ, .long)] sz)) (va_Qi (fun (r : Int32) (u : Unit) => r = satv fb ln (ad + 1)) (fun _ t => post_ D (va_A [(h, .inr (2, [.ref by_, .int (nI ln)])), (by_, .inl (cI, 300, .inl fb))] sz) [(h, .inr (2, [.ref by_, .int (nI ln)])), (by_, .inl (cI, 300, .inl fb))] t) (va_A [(h, .inr (2, [.ref by_, .int (nI ln)])), (by_, .inl (cI, 300, .inl fb))] sz)) 0 0 (va_A [(h, .inr (2, [.ref by_, .int (nI ln)])), (by_, .inl (cI, 300, .inl fb))] sz) := by
  refine Met.ofW (cc := prog_4_method_9_code) (maxL := 2) (ret := (some .int)) (by decide) rfl ?_
  intro p e s m args below meth c s₁ B hml hv
  obtain ⟨rfl, rfl, hP, hK, hD0, hT⟩ := hv
  have hx := B.exec
  have hb := B.bytes
  have hr := B.returns
  have hts0 := atoms_spec (ws := .code y_Script_locals prog_4_method_9_code 2 (some .int) :: AW) B.pre
  have hts : ∀ w ∈ AW, w.before [.ref h, .int ad].toArray s = true := fun w h => hts0 w (List.mem_cons_of_mem _ h)
  have hown : s.vm.findClass "TaleMachine$Script" = some m.cls := findClass_of_methodNamed B.named
  have hlocks := B.notSynchronized
  have hD := hD0.self (sz := s.heap.size)
  generalize hAe : va_A [(h, .inr (2, [.ref by_, .int (nI ln)])), (by_, .inl (cI, 300, .inl fb))] s.heap.size = A at hD ⊢
  have hA : ∀ q : Nat, s.heap.size ≤ q → A q := fun q h => by rw [← hAe]; exact Or.inr h
  have hS : va_S A s.heap s.heap [] := va_S.rf
  have hl := lv_entry ([.ref h, .int ad]) (n := 2) (Nat.le_of_ble_eq_true rfl)
  rw [lg_entry_eq]
  generalize (lg_sl ([.ref h, .int ad]) ++ List.replicate (2 - (lg_sl ([.ref h, .int ad])).length) Slot.unset).toArray = ls at hl ⊢
  have hl : lv_has ls 2 [(0, .ref h), (1, .int ad)] := hl
  refine lv_aload_n hx hb d_Script_locals_0 rfl (lv_at hl 0 rfl) ?_
  refine lv_iload_n hx hb d_Script_locals_1 rfl (lv_at hl 1 rfl) ?_
  refine lv_iconst (v := 1) hx hb d_Script_locals_2 (by decide) ?_
  refine lv_iadd hx hb d_Script_locals_3 ?_
  refine mv_i (va_runV (C := "TaleMachine$Script") (As := [.int (ad + 1)]) (rest := []) ⟨hx, hb, hml, hown, hts⟩ (s_atv l D cI cZ cJ h by_ ln fb (ad + 1) _ (by first | assumption | omega | decide)) (cwV 1 hts (gInV k_203 k_204 k_205 k_2 k_206) rfl rfl rfl (by decide +kernel) ⟨Nat.le_of_ble_eq_true rfl, Nat.le_of_ble_eq_true rfl⟩) (pre_V (va_recv hK hP (q := ("TaleMachine$Script", F_Script, 2)) rfl (q0 := 0) rfl) (hP.sub [0, 1] rfl) (hK.sub [0, 1, 2] rfl) (hD.sub [0, 1] (by decide) rfl) hT) rfl rfl hl.1 rfl (lv_room (Nat.le_of_ble_eq_true rfl)) d_Script_locals_4 ⟨Nat.le_of_ble_eq_true rfl, Nat.le_of_ble_eq_true rfl⟩) hP hD hS hA [0, 1] [] rfl rfl (by decide) (by decide) (wr := []) (wn := fun _ => [(h, .inr (2, [.ref by_, .int (nI ln)])), (by_, .inl (cI, 300, .inl fb))]) (fun _ _ h9 => h9) (fun r1 _ H locs hp2 hP hD hS => ?_)
  have hP : va_P D cL [(h, .inr (2, [.ref by_, .int (nI ln)])), (by_, .inl (cI, 300, .inl fb))] H := hP
  have hD : va_D A [(h, .inr (2, [.ref by_, .int (nI ln)])), (by_, .inl (cI, 300, .inl fb))] := hD
  obtain rfl : r1 = satv fb ln (ad + 1) := hp2
  exact end_i hx hb hr hlocks hS (u := ()) (r := (satv fb ln (ad + 1))) (at_end (hP.sub (ws' := [(h, .inr (2, [.ref by_, .int (nI ln)])), (by_, .inl (cI, 300, .inl fb))]) [0, 1] rfl) (hD.sub (ws' := [(h, .inr (2, [.ref by_, .int (nI ln)])), (by_, .inl (cI, 300, .inl fb))]) [0, 1] (by decide) rfl)) (rfl) (Nat.le_of_ble_eq_true rfl) (Nat.le_of_ble_eq_true rfl) d_Script_locals_7

set_option maxHeartbeats 4000000 in
set_option maxRecDepth 100000 in
theorem s_beginning2 (l : Launch) (D : va_G) (cI cZ cJ : ClassId) (h by_ : Nat) (ln : Nat) (fb : Nat → Int32) (ad : Int32) (sz : Nat) (hln : ln ≤ 300) : Met l y_Script_beginning (.code y_Script_beginning prog_4_method_10_code 2 (some .int) :: AW) ({ frames := 1, cells := 0, slots := 0, locals := 21 }) (va_Pc [.ref h, .int ad] (pre_ D [(h, .inr (2, [.ref by_, .int (nI ln)])), (by_, .inl (cI, 300, .inl fb))] [(cI, .int), (cZ, .boolean), (cJ, .long)] sz)) (va_Qi (fun (r : Int32) (u : Unit) => r = ad + 3 + 4 * satv fb ln (ad + 2)) (fun _ t => post_ D (va_A [(h, .inr (2, [.ref by_, .int (nI ln)])), (by_, .inl (cI, 300, .inl fb))] sz) [(h, .inr (2, [.ref by_, .int (nI ln)])), (by_, .inl (cI, 300, .inl fb))] t) (va_A [(h, .inr (2, [.ref by_, .int (nI ln)])), (by_, .inl (cI, 300, .inl fb))] sz)) 0 0 (va_A [(h, .inr (2, [.ref by_, .int (nI ln)])), (by_, .inl (cI, 300, .inl fb))] sz) := by
  refine Met.ofW (cc := prog_4_method_10_code) (maxL := 2) (ret := (some .int)) (by decide) rfl ?_
  intro p e s m args below meth c s₁ B hml hv
  obtain ⟨rfl, rfl, hP, hK, hD0, hT⟩ := hv
  have hx := B.exec
  have hb := B.bytes
  have hr := B.returns
  have hts0 := atoms_spec (ws := .code y_Script_beginning prog_4_method_10_code 2 (some .int) :: AW) B.pre
  have hts : ∀ w ∈ AW, w.before [.ref h, .int ad].toArray s = true := fun w h => hts0 w (List.mem_cons_of_mem _ h)
  have hown : s.vm.findClass "TaleMachine$Script" = some m.cls := findClass_of_methodNamed B.named
  have hlocks := B.notSynchronized
  have hD := hD0.self (sz := s.heap.size)
  generalize hAe : va_A [(h, .inr (2, [.ref by_, .int (nI ln)])), (by_, .inl (cI, 300, .inl fb))] s.heap.size = A at hD ⊢
  have hA : ∀ q : Nat, s.heap.size ≤ q → A q := fun q h => by rw [← hAe]; exact Or.inr h
  have hS : va_S A s.heap s.heap [] := va_S.rf
  have hl := lv_entry ([.ref h, .int ad]) (n := 2) (Nat.le_of_ble_eq_true rfl)
  rw [lg_entry_eq]
  generalize (lg_sl ([.ref h, .int ad]) ++ List.replicate (2 - (lg_sl ([.ref h, .int ad])).length) Slot.unset).toArray = ls at hl ⊢
  have hl : lv_has ls 2 [(0, .ref h), (1, .int ad)] := hl
  refine lv_iload_n hx hb d_Script_beginning_0 rfl (lv_at hl 1 rfl) ?_
  refine lv_iconst (v := 3) hx hb d_Script_beginning_1 (by decide) ?_
  refine lv_iadd hx hb d_Script_beginning_2 ?_
  refine lv_iconst (v := 4) hx hb d_Script_beginning_3 (by decide) ?_
  refine lv_aload_n hx hb d_Script_beginning_4 rfl (lv_at hl 0 rfl) ?_
  refine lv_iload_n hx hb d_Script_beginning_5 rfl (lv_at hl 1 rfl) ?_
  refine lv_iconst (v := 2) hx hb d_Script_beginning_6 (by decide) ?_
  refine lv_iadd hx hb d_Script_beginning_7 ?_
  refine mv_i (va_runV (C := "TaleMachine$Script") (As := [.int (ad + 2)]) (rest := [.int 4, .int (ad + 3)]) ⟨hx, hb, hml, hown, hts⟩ (s_atv l D cI cZ cJ h by_ ln fb (ad + 2) _ (by first | assumption | omega | decide)) (cwV 1 hts (gInV k_203 k_204 k_205 k_2 k_206) rfl rfl rfl (by decide +kernel) ⟨Nat.le_of_ble_eq_true rfl, Nat.le_of_ble_eq_true rfl⟩) (pre_V (va_recv hK hP (q := ("TaleMachine$Script", F_Script, 2)) rfl (q0 := 0) rfl) (hP.sub [0, 1] rfl) (hK.sub [0, 1, 2] rfl) (hD.sub [0, 1] (by decide) rfl) hT) rfl rfl hl.1 rfl (lv_room (Nat.le_of_ble_eq_true rfl)) d_Script_beginning_8 ⟨Nat.le_of_ble_eq_true rfl, Nat.le_of_ble_eq_true rfl⟩) hP hD hS hA [0, 1] [] rfl rfl (by decide) (by decide) (wr := []) (wn := fun _ => [(h, .inr (2, [.ref by_, .int (nI ln)])), (by_, .inl (cI, 300, .inl fb))]) (fun _ _ h9 => h9) (fun r1 _ H locs hp2 hP hD hS => ?_)
  have hP : va_P D cL [(h, .inr (2, [.ref by_, .int (nI ln)])), (by_, .inl (cI, 300, .inl fb))] H := hP
  have hD : va_D A [(h, .inr (2, [.ref by_, .int (nI ln)])), (by_, .inl (cI, 300, .inl fb))] := hD
  obtain rfl : r1 = satv fb ln (ad + 2) := hp2
  refine lv_imul hx hb d_Script_beginning_11 ?_
  refine lv_iadd hx hb d_Script_beginning_12 ?_
  exact end_i hx hb hr hlocks hS (u := ()) (r := ((ad + 3) + (4 * (satv fb ln (ad + 2))))) (at_end (hP.sub (ws' := [(h, .inr (2, [.ref by_, .int (nI ln)])), (by_, .inl (cI, 300, .inl fb))]) [0, 1] rfl) (hD.sub (ws' := [(h, .inr (2, [.ref by_, .int (nI ln)])), (by_, .inl (cI, 300, .inl fb))]) [0, 1] (by decide) rfl)) (rfl) (Nat.le_of_ble_eq_true rfl) (Nat.le_of_ble_eq_true rfl) d_Script_beginning_13

set_option maxHeartbeats 4000000 in
set_option maxRecDepth 100000 in
theorem s_isMethod2 (l : Launch) (D : va_G) (cI cZ cJ : ClassId) (h by_ : Nat) (ln : Nat) (fb : Nat → Int32) (ad ag : Int32) (sz : Nat) (hln : ln ≤ 300) (hB : BY fb) : Met l y_Script_isMethod (.code y_Script_isMethod prog_4_method_8_code 5 (some .boolean) :: AW) ({ frames := 1, cells := 0, slots := 0, locals := 21 }) (va_Pc [.ref h, .int ad, .int ag] (pre_ D [(h, .inr (2, [.ref by_, .int (nI ln)])), (by_, .inl (cI, 300, .inl fb))] [(cI, .int), (cZ, .boolean), (cJ, .long)] sz)) (va_Qi (fun (r : Int32) (u : Unit) => (r = 0 ∨ r = 1) ∧ (r = 1 → (∃ q, q ≤ 3 ∧ satv fb ln (ad + 1) = nI q) ∧ ∃ q, q ≤ 3 ∧ satv fb ln (ad + 2) = nI q)) (fun _ t => post_ D (va_A [(h, .inr (2, [.ref by_, .int (nI ln)])), (by_, .inl (cI, 300, .inl fb))] sz) [(h, .inr (2, [.ref by_, .int (nI ln)])), (by_, .inl (cI, 300, .inl fb))] t) (va_A [(h, .inr (2, [.ref by_, .int (nI ln)])), (by_, .inl (cI, 300, .inl fb))] sz)) 0 0 (va_A [(h, .inr (2, [.ref by_, .int (nI ln)])), (by_, .inl (cI, 300, .inl fb))] sz) := by
  refine Met.ofW (cc := prog_4_method_8_code) (maxL := 5) (ret := (some .boolean)) (by decide) rfl ?_
  intro p e s m args below meth c s₁ B hml hv
  obtain ⟨rfl, rfl, hP, hK, hD0, hT⟩ := hv
  have hx := B.exec
  have hb := B.bytes
  have hr := B.returns
  have hts0 := atoms_spec (ws := .code y_Script_isMethod prog_4_method_8_code 5 (some .boolean) :: AW) B.pre
  have hts : ∀ w ∈ AW, w.before [.ref h, .int ad, .int ag].toArray s = true := fun w h => hts0 w (List.mem_cons_of_mem _ h)
  have hown : s.vm.findClass "TaleMachine$Script" = some m.cls := findClass_of_methodNamed B.named
  have hlocks := B.notSynchronized
  have hD := hD0.self (sz := s.heap.size)
  generalize hAe : va_A [(h, .inr (2, [.ref by_, .int (nI ln)])), (by_, .inl (cI, 300, .inl fb))] s.heap.size = A at hD ⊢
  have hA : ∀ q : Nat, s.heap.size ≤ q → A q := fun q h => by rw [← hAe]; exact Or.inr h
  have hS : va_S A s.heap s.heap [] := va_S.rf
  have hl := lv_entry ([.ref h, .int ad, .int ag]) (n := 5) (Nat.le_of_ble_eq_true rfl)
  rw [lg_entry_eq]
  generalize (lg_sl ([.ref h, .int ad, .int ag]) ++ List.replicate (5 - (lg_sl ([.ref h, .int ad, .int ag])).length) Slot.unset).toArray = ls at hl ⊢
  have hl : lv_has ls 5 [(0, .ref h), (1, .int ad), (2, .int ag)] := hl
  refine lv_aload_n hx hb d_Script_isMethod_0 rfl (lv_at hl 0 rfl) ?_
  refine lv_iload_n hx hb d_Script_isMethod_1 rfl (lv_at hl 1 rfl) ?_
  refine lv_iconst (v := 1) hx hb d_Script_isMethod_2 (by decide) ?_
  refine lv_iadd hx hb d_Script_isMethod_3 ?_
  refine mv_i (va_runV (C := "TaleMachine$Script") (As := [.int (ad + 1)]) (rest := []) ⟨hx, hb, hml, hown, hts⟩ (s_atv l D cI cZ cJ h by_ ln fb (ad + 1) _ (by first | assumption | omega | decide)) (cwV 1 hts (gInV k_203 k_204 k_205 k_2 k_206) rfl rfl rfl (by decide +kernel) ⟨Nat.le_of_ble_eq_true rfl, Nat.le_of_ble_eq_true rfl⟩) (pre_V (va_recv hK hP (q := ("TaleMachine$Script", F_Script, 2)) rfl (q0 := 0) rfl) (hP.sub [0, 1] rfl) (hK.sub [0, 1, 2] rfl) (hD.sub [0, 1] (by decide) rfl) hT) rfl rfl hl.1 rfl (lv_room (Nat.le_of_ble_eq_true rfl)) d_Script_isMethod_4 ⟨Nat.le_of_ble_eq_true rfl, Nat.le_of_ble_eq_true rfl⟩) hP hD hS hA [0, 1] [] rfl rfl (by decide) (by decide) (wr := []) (wn := fun _ => [(h, .inr (2, [.ref by_, .int (nI ln)])), (by_, .inl (cI, 300, .inl fb))]) (fun _ _ h9 => h9) (fun r1 _ H locs hp2 hP hD hS => ?_)
  have hP : va_P D cL [(h, .inr (2, [.ref by_, .int (nI ln)])), (by_, .inl (cI, 300, .inl fb))] H := hP
  have hD : va_D A [(h, .inr (2, [.ref by_, .int (nI ln)])), (by_, .inl (cI, 300, .inl fb))] := hD
  obtain rfl : r1 = satv fb ln (ad + 1) := hp2
  refine lv_istore_n (lv' := [(3, .int (satv fb ln (ad + 1))), (0, .ref h), (1, .int ad), (2, .int ag)]) hx hb d_Script_isMethod_7 rfl hl (by decide) rfl (fun ls hl => ?_)
  refine lv_aload_n hx hb d_Script_isMethod_8 rfl (lv_at hl 1 rfl) ?_
  refine lv_iload_n hx hb d_Script_isMethod_9 rfl (lv_at hl 2 rfl) ?_
  refine lv_iconst (v := 2) hx hb d_Script_isMethod_10 (by decide) ?_
  refine lv_iadd hx hb d_Script_isMethod_11 ?_
  refine mv_i (va_runV (C := "TaleMachine$Script") (As := [.int (ad + 2)]) (rest := []) ⟨hx, hb, hml, hown, hts⟩ (s_atv l D cI cZ cJ h by_ ln fb (ad + 2) _ (by first | assumption | omega | decide)) (cwV 1 hts (gInV k_203 k_204 k_205 k_2 k_206) rfl rfl rfl (by decide +kernel) ⟨Nat.le_of_ble_eq_true rfl, Nat.le_of_ble_eq_true rfl⟩) (pre_V (va_recv hK hP (q := ("TaleMachine$Script", F_Script, 2)) rfl (q0 := 0) rfl) (hP.sub [0, 1] rfl) (hK.sub [0, 1, 2] rfl) (hD.sub [0, 1] (by decide) rfl) hT) rfl rfl hl.1 rfl (lv_room (Nat.le_of_ble_eq_true rfl)) d_Script_isMethod_12 ⟨Nat.le_of_ble_eq_true rfl, Nat.le_of_ble_eq_true rfl⟩) hP hD hS hA [0, 1] [] rfl rfl (by decide) (by decide) (wr := []) (wn := fun _ => [(h, .inr (2, [.ref by_, .int (nI ln)])), (by_, .inl (cI, 300, .inl fb))]) (fun _ _ h9 => h9) (fun r3 _ H locs hp4 hP hD hS => ?_)
  have hP : va_P D cL [(h, .inr (2, [.ref by_, .int (nI ln)])), (by_, .inl (cI, 300, .inl fb))] H := hP
  have hD : va_D A [(h, .inr (2, [.ref by_, .int (nI ln)])), (by_, .inl (cI, 300, .inl fb))] := hD
  obtain rfl : r3 = satv fb ln (ad + 2) := hp4
  refine lv_istore (lv' := [(4, .int (satv fb ln (ad + 2))), (3, .int (satv fb ln (ad + 1))), (0, .ref h), (1, .int ad), (2, .int ag)]) hx hb d_Script_isMethod_15 hl (by decide) rfl (fun ls hl => ?_)
  refine lv_iload_n hx hb d_Script_isMethod_17 rfl (lv_at hl 4 rfl) ?_
  refine lv_iconst (v := 3) hx hb d_Script_isMethod_18 (by decide) ?_
  refine lv_icmp_gt hx hb d_Script_isMethod_19 (tgt := 72) (by decide) (fun hc5 => ?_) (fun hc5 => ?_)
  · refine lv_iconst (v := 0) hx hb d_Script_isMethod_72 (by decide) ?_
    exact end_z hx hb hr hlocks hS (u := ()) (r := 0) (at_end (hP.sub (ws' := [(h, .inr (2, [.ref by_, .int (nI ln)])), (by_, .inl (cI, 300, .inl fb))]) [0, 1] rfl) (hD.sub (ws' := [(h, .inr (2, [.ref by_, .int (nI ln)])), (by_, .inl (cI, 300, .inl fb))]) [0, 1] (by decide) rfl)) (⟨Or.inl rfl, fun h9 => absurd h9 (by decide)⟩) (by decide) (Nat.le_of_ble_eq_true rfl) (Nat.le_of_ble_eq_true rfl) d_Script_isMethod_73
  · refine lv_aload_n hx hb d_Script_isMethod_22 rfl (lv_at hl 2 rfl) ?_
    refine lv_iload_n hx hb d_Script_isMethod_23 rfl (lv_at hl 3 rfl) ?_
    refine mv_i (va_runV (C := "TaleMachine$Script") (As := [.int ad]) (rest := []) ⟨hx, hb, hml, hown, hts⟩ (s_atv l D cI cZ cJ h by_ ln fb ad _ (by first | assumption | omega | decide)) (cwV 1 hts (gInV k_203 k_204 k_205 k_2 k_206) rfl rfl rfl (by decide +kernel) ⟨Nat.le_of_ble_eq_true rfl, Nat.le_of_ble_eq_true rfl⟩) (pre_V (va_recv hK hP (q := ("TaleMachine$Script", F_Script, 2)) rfl (q0 := 0) rfl) (hP.sub [0, 1] rfl) (hK.sub [0, 1, 2] rfl) (hD.sub [0, 1] (by decide) rfl) hT) rfl rfl hl.1 rfl (lv_room (Nat.le_of_ble_eq_true rfl)) d_Script_isMethod_24 ⟨Nat.le_of_ble_eq_true rfl, Nat.le_of_ble_eq_true rfl⟩) hP hD hS hA [0, 1] [] rfl rfl (by decide) (by decide) (wr := []) (wn := fun _ => [(h, .inr (2, [.ref by_, .int (nI ln)])), (by_, .inl (cI, 300, .inl fb))]) (fun _ _ h9 => h9) (fun r6 _ H locs hp7 hP hD hS => ?_)
    have hP : va_P D cL [(h, .inr (2, [.ref by_, .int (nI ln)])), (by_, .inl (cI, 300, .inl fb))] H := hP
    have hD : va_D A [(h, .inr (2, [.ref by_, .int (nI ln)])), (by_, .inl (cI, 300, .inl fb))] := hD
    obtain rfl : r6 = satv fb ln ad := hp7
    refine lv_iload_n hx hb d_Script_isMethod_27 rfl (lv_at hl 4 rfl) ?_
    refine lv_icmp_ne hx hb d_Script_isMethod_28 (tgt := 72) (by decide) (fun hc8 => ?_) (fun hc8 => ?_)
    · refine lv_iconst (v := 0) hx hb d_Script_isMethod_72 (by decide) ?_
      exact end_z hx hb hr hlocks hS (u := ()) (r := 0) (at_end (hP.sub (ws' := [(h, .inr (2, [.ref by_, .int (nI ln)])), (by_, .inl (cI, 300, .inl fb))]) [0, 1] rfl) (hD.sub (ws' := [(h, .inr (2, [.ref by_, .int (nI ln)])), (by_, .inl (cI, 300, .inl fb))]) [0, 1] (by decide) rfl)) (⟨Or.inl rfl, fun h9 => absurd h9 (by decide)⟩) (by decide) (Nat.le_of_ble_eq_true rfl) (Nat.le_of_ble_eq_true rfl) d_Script_isMethod_73
    · refine lv_iload_n hx hb d_Script_isMethod_31 rfl (lv_at hl 1 rfl) ?_
      refine lv_iconst (v := (-1)) hx hb d_Script_isMethod_32 (by decide) ?_
      refine lv_icmp_eq hx hb d_Script_isMethod_33 (tgt := 72) (by decide) (fun hc9 => ?_) (fun hc9 => ?_)
      · refine lv_iconst (v := 0) hx hb d_Script_isMethod_72 (by decide) ?_
        exact end_z hx hb hr hlocks hS (u := ()) (r := 0) (at_end (hP.sub (ws' := [(h, .inr (2, [.ref by_, .int (nI ln)])), (by_, .inl (cI, 300, .inl fb))]) [0, 1] rfl) (hD.sub (ws' := [(h, .inr (2, [.ref by_, .int (nI ln)])), (by_, .inl (cI, 300, .inl fb))]) [0, 1] (by decide) rfl)) (⟨Or.inl rfl, fun h9 => absurd h9 (by decide)⟩) (by decide) (Nat.le_of_ble_eq_true rfl) (Nat.le_of_ble_eq_true rfl) d_Script_isMethod_73
      · refine lv_iload_n hx hb d_Script_isMethod_36 rfl (lv_at hl 1 rfl) ?_
        refine lv_iconst (v := 3) hx hb d_Script_isMethod_37 (by decide) ?_
        refine lv_icmp_gt hx hb d_Script_isMethod_38 (tgt := 72) (by decide) (fun hc10 => ?_) (fun hc10 => ?_)
        · refine lv_iconst (v := 0) hx hb d_Script_isMethod_72 (by decide) ?_
          exact end_z hx hb hr hlocks hS (u := ()) (r := 0) (at_end (hP.sub (ws' := [(h, .inr (2, [.ref by_, .int (nI ln)])), (by_, .inl (cI, 300, .inl fb))]) [0, 1] rfl) (hD.sub (ws' := [(h, .inr (2, [.ref by_, .int (nI ln)])), (by_, .inl (cI, 300, .inl fb))]) [0, 1] (by decide) rfl)) (⟨Or.inl rfl, fun h9 => absurd h9 (by decide)⟩) (by decide) (Nat.le_of_ble_eq_true rfl) (Nat.le_of_ble_eq_true rfl) d_Script_isMethod_73
        · refine lv_iload hx hb d_Script_isMethod_41 (lv_at hl 0 rfl) ?_
          refine lv_iconst (v := (-1)) hx hb d_Script_isMethod_43 (by decide) ?_
          refine lv_icmp_eq hx hb d_Script_isMethod_44 (tgt := 72) (by decide) (fun hc11 => ?_) (fun hc11 => ?_)
          · refine lv_iconst (v := 0) hx hb d_Script_isMethod_72 (by decide) ?_
            exact end_z hx hb hr hlocks hS (u := ()) (r := 0) (at_end (hP.sub (ws' := [(h, .inr (2, [.ref by_, .int (nI ln)])), (by_, .inl (cI, 300, .inl fb))]) [0, 1] rfl) (hD.sub (ws' := [(h, .inr (2, [.ref by_, .int (nI ln)])), (by_, .inl (cI, 300, .inl fb))]) [0, 1] (by decide) rfl)) (⟨Or.inl rfl, fun h9 => absurd h9 (by decide)⟩) (by decide) (Nat.le_of_ble_eq_true rfl) (Nat.le_of_ble_eq_true rfl) d_Script_isMethod_73
          · refine lv_iload hx hb d_Script_isMethod_47 (lv_at hl 0 rfl) ?_
            refine lv_iconst (v := 3) hx hb d_Script_isMethod_49 (by decide) ?_
            refine lv_icmp_gt hx hb d_Script_isMethod_50 (tgt := 72) (by decide) (fun hc12 => ?_) (fun hc12 => ?_)
            · refine lv_iconst (v := 0) hx hb d_Script_isMethod_72 (by decide) ?_
              exact end_z hx hb hr hlocks hS (u := ()) (r := 0) (at_end (hP.sub (ws' := [(h, .inr (2, [.ref by_, .int (nI ln)])), (by_, .inl (cI, 300, .inl fb))]) [0, 1] rfl) (hD.sub (ws' := [(h, .inr (2, [.ref by_, .int (nI ln)])), (by_, .inl (cI, 300, .inl fb))]) [0, 1] (by decide) rfl)) (⟨Or.inl rfl, fun h9 => absurd h9 (by decide)⟩) (by decide) (Nat.le_of_ble_eq_true rfl) (Nat.le_of_ble_eq_true rfl) d_Script_isMethod_73
            · refine lv_iload_n hx hb d_Script_isMethod_53 rfl (lv_at hl 3 rfl) ?_
              refine lv_iconst (v := 3) hx hb d_Script_isMethod_54 (by decide) ?_
              refine lv_iadd hx hb d_Script_isMethod_55 ?_
              refine lv_iconst (v := 4) hx hb d_Script_isMethod_56 (by decide) ?_
              refine lv_iload hx hb d_Script_isMethod_57 (lv_at hl 0 rfl) ?_
              refine lv_imul hx hb d_Script_isMethod_59 ?_
              refine lv_iadd hx hb d_Script_isMethod_60 ?_
              refine lv_aload_n hx hb d_Script_isMethod_61 rfl (lv_at hl 2 rfl) ?_
              refine va_get (D := D) (ci := 2) (v := .int (nI ln)) (C := "TaleMachine$Script") (T := F_Script) (N := 2) hx hb hts in_Script hown hK hP 0 rfl rfl 1 (by decide) (hts _ k_33) (fun _ h9 => h9) rfl d_Script_isMethod_62 ?_
              refine lv_icmp_gt hx hb d_Script_isMethod_65 (tgt := 72) (by decide) (fun hc13 => ?_) (fun hc13 => ?_)
              · refine lv_iconst (v := 0) hx hb d_Script_isMethod_72 (by decide) ?_
                exact end_z hx hb hr hlocks hS (u := ()) (r := 0) (at_end (hP.sub (ws' := [(h, .inr (2, [.ref by_, .int (nI ln)])), (by_, .inl (cI, 300, .inl fb))]) [0, 1] rfl) (hD.sub (ws' := [(h, .inr (2, [.ref by_, .int (nI ln)])), (by_, .inl (cI, 300, .inl fb))]) [0, 1] (by decide) rfl)) (⟨Or.inl rfl, fun h9 => absurd h9 (by decide)⟩) (by decide) (Nat.le_of_ble_eq_true rfl) (Nat.le_of_ble_eq_true rfl) d_Script_isMethod_73
              · refine lv_iconst (v := 1) hx hb d_Script_isMethod_68 (by decide) ?_
                refine lv_goto hx hb d_Script_isMethod_69 (tgt := 73) (by decide) ?_
                exact end_z hx hb hr hlocks hS (u := ()) (r := 1) (at_end (hP.sub (ws' := [(h, .inr (2, [.ref by_, .int (nI ln)])), (by_, .inl (cI, 300, .inl fb))]) [0, 1] rfl) (hD.sub (ws' := [(h, .inr (2, [.ref by_, .int (nI ln)])), (by_, .inl (cI, 300, .inl fb))]) [0, 1] (by decide) rfl)) (⟨Or.inr rfl, fun _ => ⟨(satv_bt hB hln).small hc9 hc10, (satv_bt hB hln).small hc11 hc12⟩⟩) (by decide) (Nat.le_of_ble_eq_true rfl) (Nat.le_of_ble_eq_true rfl) d_Script_isMethod_73
