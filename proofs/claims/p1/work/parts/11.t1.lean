set_option maxHeartbeats 4000000 in
set_option maxRecDepth 100000 in
theorem c_Script_init (l : Launch) (D : va_G) (cI cZ cJ : ClassId) (h : Nat) (sz : Nat)  : Met l y_Script_init (.code y_Script_init prog_4_method_1_code 1 none :: AW) ({ frames := 1, cells := 1, slots := 300, locals := 14 }) (va_Pc [.ref h] (pre_ D [(h, .inr (2, [.null, .int 0]))] [(cI, .int), (cZ, .boolean), (cJ, .long)] sz)) (va_Qv (fun (u : Nat) => True) (fun u t => match u with | b => post_ D (va_A [(h, .inr (2, [.null, .int 0]))] sz) [(h, .inr (2, [.ref b, .int 0])), (b, .inl (cI, 300, .inl (fun _ => 0)))] t) (va_A [(h, .inr (2, [.null, .int 0]))] sz)) 1 300 (va_A [(h, .inr (2, [.null, .int 0]))] sz) := by
  refine Met.ofW (cc := prog_4_method_1_code) (maxL := 1) (ret := none) (by decide) rfl ?_
  intro p e s m args below meth c s₁ B hml hv
  obtain ⟨rfl, rfl, hP, hK, hD0, hT⟩ := hv
  have hx := B.exec
  have hb := B.bytes
  have hr := B.returns
  have hts0 := atoms_spec (ws := .code y_Script_init prog_4_method_1_code 1 none :: AW) B.pre
  have hts : ∀ w ∈ AW, w.before [.ref h].toArray s = true := fun w h => hts0 w (List.mem_cons_of_mem _ h)
  have hown : s.vm.findClass "TaleMachine$Script" = some m.cls := findClass_of_methodNamed B.named
  have hlocks := B.notSynchronized
  have hin : meth.name = "<init>" := (name_of_methodNamed B.named B.method).1
  have hD := hD0.self (sz := s.heap.size)
  generalize hAe : va_A [(h, .inr (2, [.null, .int 0]))] s.heap.size = A at hD ⊢
  have hA : ∀ q : Nat, s.heap.size ≤ q → A q := fun q h => by rw [← hAe]; exact Or.inr h
  have hS : va_S A s.heap s.heap [] := va_S.rf
  have hl := lv_entry ([.ref h]) (n := 1) (Nat.le_of_ble_eq_true rfl)
  rw [lg_entry_eq]
  generalize (lg_sl ([.ref h]) ++ List.replicate (1 - (lg_sl ([.ref h])).length) Slot.unset).toArray = ls at hl ⊢
  have hl : lv_has ls 1 [(0, .ref h)] := hl
  refine lv_aload_n hx hb d_Script_init_0 rfl (lv_at hl 0 rfl) ?_
  refine W.objInit hx hb hown (hts _ k_1) (hts _ k_2) (hts _ k_3) rfl (by rw [hml]; exact hl.1) rfl d_Script_init_1 (Nat.le_of_ble_eq_true rfl) (Nat.le_of_ble_eq_true rfl) ?_
  refine W.eq (g2 := F0 m 4 ls []) rfl ?_
  refine lv_aload_n hx hb d_Script_init_4 rfl (lv_at hl 0 rfl) ?_
  refine lv_sipush (v := 300) hx hb d_Script_init_5 (by decide) ?_
  refine nw_i hx hb (hts _ k_4) hK 0 rfl hP hD hS hA (n := 300) (N' := 300) (by decide) (by decide) (by decide) (Nat.le_of_ble_eq_true rfl) (Nat.le_of_ble_eq_true rfl) d_Script_init_8 (fun q1 H hP hD hS => ?_)
  have hP : va_P D cL [(h, .inr (2, [.null, .int 0])), (q1, .inl (cI, 300, .inl (fun _ => 0)))] H := hP
  have hD : va_D A [(h, .inr (2, [.null, .int 0])), (q1, .inl (cI, 300, .inl (fun _ => 0)))] := hD
  refine W.widen (k := 1) (n := 300) (Nat.le_of_ble_eq_true rfl) (Nat.le_of_ble_eq_true rfl) ?_
  refine va_putF (D := D) (ci := 2) (v := .ref q1) (ty := .array .int) (C := "TaleMachine$Script") (T := F_Script) (N := 2) hx hb hts in_Script t_Script t_Script_ok n_Script hown hK hP hD hS 0 rfl rfl 0 (by decide) (hts _ k_5) (fun _ h9 => h9) rfl hin rfl (by decide +kernel) rfl rfl (Nat.le_of_ble_eq_true rfl) d_Script_init_10 (fun H locs hP hD hS => ?_)
  have hP : va_P D cL [(h, .inr (2, [.ref q1, .int 0])), (q1, .inl (cI, 300, .inl (fun _ => 0)))] H := hP
  have hD : va_D A [(h, .inr (2, [.ref q1, .int 0])), (q1, .inl (cI, 300, .inl (fun _ => 0)))] := hD
  exact end_v hx hb hr hlocks hS (u := q1) (at_end (hP.sub (ws' := [(h, .inr (2, [.ref q1, .int 0])), (q1, .inl (cI, 300, .inl (fun _ => 0)))]) [0, 1] rfl) (hD.sub (ws' := [(h, .inr (2, [.ref q1, .int 0])), (q1, .inl (cI, 300, .inl (fun _ => 0)))]) [0, 1] (by decide) rfl)) (trivial) (Nat.le_of_ble_eq_true rfl) (Nat.le_of_ble_eq_true rfl) d_Script_init_13
