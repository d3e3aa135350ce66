set_option maxHeartbeats 4000000 in
set_option maxRecDepth 100000 in
theorem c_fill (l : Launch) (D : va_G) (cI cZ cJ : ClassId) (ar nn : Nat) (fv : Nat → Int32) (vv : Int32) (sz : Nat) (hn : nn < 2 ^ 31) : Met l y_Arrays_fill (.code y_Arrays_fill prog_19_method_103_code 4 none :: AW) ({ frames := 0, cells := 0, slots := 0, locals := 0 }) (va_Pc [.ref ar, .int vv] (pre_ D [(ar, .inl (cI, nn, .inl fv))] [(cI, .int), (cZ, .boolean), (cJ, .long)] sz)) (va_Qv (fun (u : Unit) => True) (fun _ t => post_ D (va_A [(ar, .inl (cI, nn, .inl fv))] sz) [(ar, .inl (cI, nn, .inl (fun _ => vv)))] t) (va_A [(ar, .inl (cI, nn, .inl fv))] sz)) 0 0 (va_A [(ar, .inl (cI, nn, .inl fv))] sz) := by
  refine Met.ofW (cc := prog_19_method_103_code) (maxL := 4) (ret := none) (by decide) rfl ?_
  intro p e s m args below meth c s₁ B hml hv
  obtain ⟨rfl, rfl, hP, hK, hD0, hT⟩ := hv
  have hx := B.exec
  have hb := B.bytes
  have hr := B.returns
  have hlocks := B.notSynchronized
  have hD := hD0.self (sz := s.heap.size)
  generalize hAe : va_A [(ar, .inl (cI, nn, .inl fv))] s.heap.size = A at hD ⊢
  have hS : va_S A s.heap s.heap [] := va_S.rf
  have hl := lv_entry ([.ref ar, .int vv]) (n := 4) (Nat.le_of_ble_eq_true rfl)
  rw [lg_entry_eq]
  generalize (lg_sl ([.ref ar, .int vv]) ++ List.replicate (4 - (lg_sl ([.ref ar, .int vv])).length) Slot.unset).toArray = ls at hl ⊢
  have hl : lv_has ls 4 [(0, .ref ar), (1, .int vv)] := hl
  refine lv_iconst (v := 0) hx hb d_Arrays_fill_0 (by decide) ?_
  refine lv_istore_n (lv' := [(2, .int 0), (0, .ref ar), (1, .int vv)]) hx hb d_Arrays_fill_1 rfl hl (by decide) rfl (fun ls hl => ?_)
  refine lv_aload_n hx hb d_Arrays_fill_2 rfl (lv_at hl 1 rfl) ?_
  refine va_alen hx hb hK hP 0 0 rfl rfl (v := nI nn) rfl d_Arrays_fill_3 ?_
  refine lv_istore_n (lv' := [(3, .int (nI nn)), (2, .int 0), (0, .ref ar), (1, .int vv)]) hx hb d_Arrays_fill_4 rfl hl (by decide) rfl (fun ls hl => ?_)
  refine lp_W (I := fun k H locs ls => ∃ g : Nat → Int32, (∀ j, j < k → g j = vv) ∧ va_P D cL [(ar, .inl (cI, nn, .inl g))] H ∧ va_D A [(ar, .inl (cI, nn, .inl g))] ∧ va_S A s.heap H locs ∧ lv_has ls 4 [(3, .int (nI nn)), (2, .int (nI k)), (0, .ref ar), (1, .int vv)]) (a := 0) (b := nn) (Nat.zero_le _) ?_ _ _ _ ⟨fv, fun j h => absurd h (Nat.not_lt_zero j), hP, hD, hS, hl⟩
  intro k H locs ls hka hkb hI ih
  obtain ⟨g, hg, hP, hD, hS, hl⟩ := hI
  refine lv_iload_n hx hb d_Arrays_fill_5 rfl (lv_at hl 1 rfl) ?_
  refine lv_iload_n hx hb d_Arrays_fill_6 rfl (lv_at hl 0 rfl) ?_
  refine lv_icmp_ge hx hb d_Arrays_fill_7 (tgt := 20) (by decide) (fun hc => ?_) (fun hc => ?_)
  · have hkn : nn ≤ k := (nI_leI hn (by omega)).mp hc
    have hP9 := vs_ext (g := fun _ => vv) (fun j hj => hg j (by omega)) hP
    exact end_v hx hb hr hlocks hS (u := ()) (at_end hP9 (hD.set (p := 0) (e := .inl (cI, nn, .inl (fun _ => vv))) rfl)) trivial (Nat.le_of_ble_eq_true rfl) (Nat.le_of_ble_eq_true rfl) d_Arrays_fill_20
  · have hk : k < nn := Nat.lt_of_not_le (fun z => hc (nI_le z (by omega)))
    refine lv_aload_n hx hb d_Arrays_fill_10 rfl (lv_at hl 2 rfl) ?_
    refine lv_iload_n hx hb d_Arrays_fill_11 rfl (lv_at hl 1 rfl) ?_
    refine lv_iload_n hx hb d_Arrays_fill_12 rfl (lv_at hl 3 rfl) ?_
    refine va_iast hx hb hK hP hD hS 0 0 rfl rfl (i := nI k) (x := vv) (vp_in_nI hk hn) d_Arrays_fill_13 (fun H locs hP hD hS => ?_)
    have hP : va_P D cL [(ar, .inl (cI, nn, .inl (upd g (nI k).toNatClampNeg vv)))] H := hP
    have hD : va_D A [(ar, .inl (cI, nn, .inl (upd g (nI k).toNatClampNeg vv)))] := hD
    refine lv_iinc (v := nI (k + 1)) (lv' := [(2, .int (nI (k + 1))), (3, .int (nI nn)), (0, .ref ar), (1, .int vv)]) hx hb d_Arrays_fill_14 hl (k := 1) rfl (nI_1 k) (by decide) rfl (fun ls hl => ?_)
    refine lv_goto hx hb d_Arrays_fill_17 (tgt := 5) (by decide) ?_
    refine ih hk _ _ _ ⟨_, fun j hj => ?_, hP, hD, hS, lv_sub hl [1, 0, 2, 3] rfl⟩
    rw [nI_clamp (by omega)]
    by_cases hjk : j = k
    · rw [hjk]; exact pk_us
    · rw [pk_un hjk]; exact hg j (by omega)
