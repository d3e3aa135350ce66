set_option maxHeartbeats 4000000 in
set_option maxRecDepth 100000 in
theorem s_append_lo (l : Launch) (D : va_G) (cI cZ cJ : ClassId) (h by_ : Nat) (ln : Nat) (fb : Nat → Int32) (wd kk : Int32) (sz : Nat) (hk : kk < 1) : Met l y_Script_append (.code y_Script_append prog_4_method_2_code 4 (some .boolean) :: AW) ({ frames := 0, cells := 0, slots := 0, locals := 0 }) (va_Pc [.ref h, .int wd, .int kk] (pre_ D [(h, .inr (2, [.ref by_, .int (nI ln)])), (by_, .inl (cI, 300, .inl fb))] [(cI, .int), (cZ, .boolean), (cJ, .long)] sz)) (va_Qi (fun (r : Int32) (u : Unit) => r = 0) (fun _ t => post_ D (va_A [(h, .inr (2, [.ref by_, .int (nI ln)])), (by_, .inl (cI, 300, .inl fb))] sz) [(h, .inr (2, [.ref by_, .int (nI ln)])), (by_, .inl (cI, 300, .inl fb))] t) (va_A [(h, .inr (2, [.ref by_, .int (nI ln)])), (by_, .inl (cI, 300, .inl fb))] sz)) 0 0 (va_A [(h, .inr (2, [.ref by_, .int (nI ln)])), (by_, .inl (cI, 300, .inl fb))] sz) := by
  refine Met.ofW (cc := prog_4_method_2_code) (maxL := 4) (ret := (some .boolean)) (by decide) rfl ?_
  intro p e s m args below meth c s₁ B hml hv
  obtain ⟨rfl, rfl, hP, hK, hD0, hT⟩ := hv
  have hx := B.exec
  have hb := B.bytes
  have hr := B.returns
  have hts0 := atoms_spec (ws := .code y_Script_append prog_4_method_2_code 4 (some .boolean) :: AW) B.pre
  have hts : ∀ w ∈ AW, w.before [.ref h, .int wd, .int kk].toArray s = true := fun w h => hts0 w (List.mem_cons_of_mem _ h)
  have hown : s.vm.findClass "TaleMachine$Script" = some m.cls := findClass_of_methodNamed B.named
  have hlocks := B.notSynchronized
  have hD := hD0.self (sz := s.heap.size)
  generalize hAe : va_A [(h, .inr (2, [.ref by_, .int (nI ln)])), (by_, .inl (cI, 300, .inl fb))] s.heap.size = A at hD ⊢
  have hA : ∀ q : Nat, s.heap.size ≤ q → A q := fun q h => by rw [← hAe]; exact Or.inr h
  have hS : va_S A s.heap s.heap [] := va_S.rf
  have hl := lv_entry ([.ref h, .int wd, .int kk]) (n := 4) (Nat.le_of_ble_eq_true rfl)
  rw [lg_entry_eq]
  generalize (lg_sl ([.ref h, .int wd, .int kk]) ++ List.replicate (4 - (lg_sl ([.ref h, .int wd, .int kk])).length) Slot.unset).toArray = ls at hl ⊢
  have hl : lv_has ls 4 [(0, .ref h), (1, .int wd), (2, .int kk)] := hl
  refine lv_iload_n hx hb d_Script_append_0 rfl (lv_at hl 2 rfl) ?_
  refine lv_iconst (v := 1) hx hb d_Script_append_1 (by decide) ?_
  refine lv_icmp_lt hx hb d_Script_append_2 (tgt := 22) (by decide) (fun _ => ?_) (fun hz => absurd hk hz)
  refine lv_iconst (v := 0) hx hb d_Script_append_22 (by decide) ?_
  exact end_z hx hb hr hlocks hS (u := ()) (r := 0) (at_end (hP.sub (ws' := [(h, .inr (2, [.ref by_, .int (nI ln)])), (by_, .inl (cI, 300, .inl fb))]) [0, 1] rfl) (hD.sub (ws' := [(h, .inr (2, [.ref by_, .int (nI ln)])), (by_, .inl (cI, 300, .inl fb))]) [0, 1] (by decide) rfl)) (rfl) (by decide) (Nat.le_of_ble_eq_true rfl) (Nat.le_of_ble_eq_true rfl) d_Script_append_23

set_option maxHeartbeats 4000000 in
set_option maxRecDepth 100000 in
theorem s_append_hi (l : Launch) (D : va_G) (cI cZ cJ : ClassId) (h by_ : Nat) (ln : Nat) (fb : Nat → Int32) (wd kk : Int32) (sz : Nat) (hk : 4 < kk) : Met l y_Script_append (.code y_Script_append prog_4_method_2_code 4 (some .boolean) :: AW) ({ frames := 0, cells := 0, slots := 0, locals := 0 }) (va_Pc [.ref h, .int wd, .int kk] (pre_ D [(h, .inr (2, [.ref by_, .int (nI ln)])), (by_, .inl (cI, 300, .inl fb))] [(cI, .int), (cZ, .boolean), (cJ, .long)] sz)) (va_Qi (fun (r : Int32) (u : Unit) => r = 0) (fun _ t => post_ D (va_A [(h, .inr (2, [.ref by_, .int (nI ln)])), (by_, .inl (cI, 300, .inl fb))] sz) [(h, .inr (2, [.ref by_, .int (nI ln)])), (by_, .inl (cI, 300, .inl fb))] t) (va_A [(h, .inr (2, [.ref by_, .int (nI ln)])), (by_, .inl (cI, 300, .inl fb))] sz)) 0 0 (va_A [(h, .inr (2, [.ref by_, .int (nI ln)])), (by_, .inl (cI, 300, .inl fb))] sz) := by
  refine Met.ofW (cc := prog_4_method_2_code) (maxL := 4) (ret := (some .boolean)) (by decide) rfl ?_
  intro p e s m args below meth c s₁ B hml hv
  obtain ⟨rfl, rfl, hP, hK, hD0, hT⟩ := hv
  have hx := B.exec
  have hb := B.bytes
  have hr := B.returns
  have hts0 := atoms_spec (ws := .code y_Script_append prog_4_method_2_code 4 (some .boolean) :: AW) B.pre
  have hts : ∀ w ∈ AW, w.before [.ref h, .int wd, .int kk].toArray s = true := fun w h => hts0 w (List.mem_cons_of_mem _ h)
  have hown : s.vm.findClass "TaleMachine$Script" = some m.cls := findClass_of_methodNamed B.named
  have hlocks := B.notSynchronized
  have hD := hD0.self (sz := s.heap.size)
  generalize hAe : va_A [(h, .inr (2, [.ref by_, .int (nI ln)])), (by_, .inl (cI, 300, .inl fb))] s.heap.size = A at hD ⊢
  have hA : ∀ q : Nat, s.heap.size ≤ q → A q := fun q h => by rw [← hAe]; exact Or.inr h
  have hS : va_S A s.heap s.heap [] := va_S.rf
  have hl := lv_entry ([.ref h, .int wd, .int kk]) (n := 4) (Nat.le_of_ble_eq_true rfl)
  rw [lg_entry_eq]
  generalize (lg_sl ([.ref h, .int wd, .int kk]) ++ List.replicate (4 - (lg_sl ([.ref h, .int wd, .int kk])).length) Slot.unset).toArray = ls at hl ⊢
  have hl : lv_has ls 4 [(0, .ref h), (1, .int wd), (2, .int kk)] := hl
  refine lv_iload_n hx hb d_Script_append_0 rfl (lv_at hl 2 rfl) ?_
  refine lv_iconst (v := 1) hx hb d_Script_append_1 (by decide) ?_
  refine lv_icmp_lt hx hb d_Script_append_2 (tgt := 22) (by decide) (fun hz => absurd hz (fun hz => absurd (Int32.lt_trans hk hz) (by decide))) (fun _ => ?_)
  refine lv_iload_n hx hb d_Script_append_5 rfl (lv_at hl 2 rfl) ?_
  refine lv_iconst (v := 4) hx hb d_Script_append_6 (by decide) ?_
  refine lv_icmp_gt hx hb d_Script_append_7 (tgt := 22) (by decide) (fun _ => ?_) (fun hz => absurd hk hz)
  refine lv_iconst (v := 0) hx hb d_Script_append_22 (by decide) ?_
  exact end_z hx hb hr hlocks hS (u := ()) (r := 0) (at_end (hP.sub (ws' := [(h, .inr (2, [.ref by_, .int (nI ln)])), (by_, .inl (cI, 300, .inl fb))]) [0, 1] rfl) (hD.sub (ws' := [(h, .inr (2, [.ref by_, .int (nI ln)])), (by_, .inl (cI, 300, .inl fb))]) [0, 1] (by decide) rfl)) (rfl) (by decide) (Nat.le_of_ble_eq_true rfl) (Nat.le_of_ble_eq_true rfl) d_Script_append_23
