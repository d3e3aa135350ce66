/-! into a handler, whichever row of the table it is -/
section VO7
variable {p : Program} {l : Launch} {e : Env} {R : Room} {s : State} {m : MethodId} {args : Array Value} {below : List Frame} {meth : Method} {c : Code} {H : Heap} {locs : List Loc} {cells slots : Nat} {Q : State → Prop}
variable {pc : Nat} {ls : Array Slot} {rest st0 : List Value} {A : Nat → Prop} {H0 : Heap} {D : va_G} {cs : List String}
theorem vt_seek {own : String} (hown : s.vm.findClass own = some m.cls) (hpl : e.platform.magicAccessors = ({} : Platform).magicAccessors) {S : State} {f : JFrame} (hf : f.method = m) {x : Addr} {cell : Cell} {cls : String} (hx : S.heap[x]? = some cell) (hob : ∀ k, cell.vm ≠ .statics k) (hcx : s.vm.findClass cls = some cell.cls) (nm : Nat → String) :
    ∀ (rows : List ExceptionTableEntry), (∀ r ∈ rows, covers r f.pc = true ∧ r.catchType ≠ 0 ∧ (Cond.classLink own r.catchType (nm r.catchType)).before args s = true) → (∃ r ∈ rows, (Cond.castable cls (nm r.catchType)).before args s = true) →
      ∀ vm0 : Vm, s.WarmedH vm0 → ∃ r ∈ rows, ∃ vm1 : Vm, s.WarmedH vm1 ∧ ∀ (Q' : Handler → Pre) (E : CtlPost) (d : Bool) (acts : List Action), wp (findHandler.go f x rows) Q' E e d acts (S.setVm vm0) ↔ Q' (.found r.handlerPc) d acts (S.setVm vm1) := by
  intro rows
  induction rows with
  | nil => intro _ h; obtain ⟨r, hr, -⟩ := h; exact absurd hr List.not_mem_nil
  | cons row rows ih =>
    intro hrows hex vm0 hw0
    obtain ⟨hcv, hct, hlink⟩ := hrows row List.mem_cons_self
    obtain ⟨cT, hcT, hcl⟩ := Cond.classLink_spec hown hlink e.platform hpl
    obtain ⟨dk, _, _, kt, hd, _, _, _, _, hkt, _, hopen⟩ := hcl.here
    have hcl' := hw0.classLinks hcl
    have hW' : s.WarmedH (vm0.noted m.cls row.catchType (.cls cT)) := hw0.noted hd hopen (State.rightAt_cls hcl)
    have halT := hw0.alike
    obtain ⟨kt', hkt', -⟩ := halT.2.2 _ _ hkt
    have halN : vm0.Alike (vm0.noted m.cls row.catchType (.cls cT)) := (Vm.Alike.refl vm0).noted _ _ _
    obtain ⟨k2', hk2', -⟩ := halN.2.2 _ _ hkt'
    obtain ⟨kx, hkx⟩ := Vm.classAt_of_findClass hcx
    obtain ⟨kx', hkx', -⟩ := halT.2.2 _ _ hkx
    obtain ⟨k1', hk1', -⟩ := halN.2.2 _ _ hkx'
    have hcv' : (decide (row.startPc ≤ f.pc) && decide (f.pc < row.endPc)) = true := hcv
    by_cases hfit : s.vm.assignable cell.cls cT = true
    · refine ⟨row, List.mem_cons_self, _, hW', fun Q' E d acts => ?_⟩
      have hfitN : (vm0.noted m.cls row.catchType (.cls cT)).assignable cell.cls cT = true := by rw [halN.assignable, halT.assignable]; exact hfit
      have hvS : (S.setVm vm0).vm = vm0 := rfl
      have hhS : (S.setVm vm0).heap[x]? = some cell := hx
      have e9 : (S.setVm vm0).setVm (vm0.noted m.cls row.catchType (.cls cT)) = S.setVm (vm0.noted m.cls row.catchType (.cls cT)) := rfl
      rw [← e9]
      generalize S.setVm vm0 = S0 at hvS hhS ⊢
      subst hvS
      obtain ⟨ha, ht⟩ := (resolveClass_links e.toSetting hcl').op (op := VmOp.resolveClass m.cls row.catchType) rfl
      rw [← hf] at *
      simp [findHandler.go, hcv', hct, ha, ht, hhS, hob, hk1', hk2', hfitN, VmOp.dirties, VmOp.acts]
    · have hex2 : ∃ r ∈ rows, (Cond.castable cls (nm r.catchType)).before args s = true := by
        obtain ⟨r, hr, hc⟩ := hex
        rcases List.mem_cons.mp hr with rfl | hr
        · exfalso
          obtain ⟨c3, c4, hc3, hc4, hasg⟩ := Cond.castable_spec hc
          cases hcx.symm.trans hc3
          cases hcT.symm.trans hc4
          exact hfit hasg
        · exact ⟨r, hr, hc⟩
      obtain ⟨r, hr, vm1, hw1, hgo⟩ := ih (fun r hr => hrows r (List.mem_cons_of_mem _ hr)) hex2 _ hW'
      refine ⟨r, List.mem_cons_of_mem _ hr, vm1, hw1, fun Q' E d acts => ?_⟩
      refine Iff.trans ?_ (hgo Q' E d acts)
      have hfitN : (vm0.noted m.cls row.catchType (.cls cT)).assignable cell.cls cT = false := by
        rw [halN.assignable, halT.assignable]
        exact Bool.eq_false_iff.mpr hfit
      have hvS : (S.setVm vm0).vm = vm0 := rfl
      have hhS : (S.setVm vm0).heap[x]? = some cell := hx
      have e9 : (S.setVm vm0).setVm (vm0.noted m.cls row.catchType (.cls cT)) = S.setVm (vm0.noted m.cls row.catchType (.cls cT)) := rfl
      rw [← e9]
      generalize S.setVm vm0 = S0 at hvS hhS ⊢
      subst hvS
      obtain ⟨ha, ht⟩ := (resolveClass_links e.toSetting hcl').op (op := VmOp.resolveClass m.cls row.catchType) rfl
      rw [← hf] at *
      simp [findHandler.go, hcv', hct, ha, ht, hhS, hob, hk1', hk2', hfitN, VmOp.dirties, VmOp.acts]
theorem vo_catch {Sx : Type} {post : Sx → Prop} {wn : Sx → va_W} {own : String} (hown : s.vm.findClass own = some m.cls) {tb : List (Nat × Nat × Nat × Nat)} (htab : c.exceptionTable.toList.map (fun h => (h.startPc, h.endPc, h.handlerPc, h.catchType)) = tb) (nm : Nat → String)
    (hrows : ∀ r ∈ tb, (decide (r.1 ≤ pc) && decide (pc < r.2.1)) = true ∧ r.2.2.2 ≠ 0 ∧ (Cond.classLink own r.2.2.2 (nm r.2.2.2)).before args s = true) (hcast : ∀ cls ∈ cs, ∃ r ∈ tb, (Cond.castable cls (nm r.2.2.2)).before args s = true)
    (kk : ∀ r ∈ tb, ∀ (q : Nat) (u : Sx) (H1 : Heap) (locs1 : List Loc), post u → va_P D cL (wn u) H1 → va_D A (wn u) → va_S A H0 H1 locs1 → W p l e R s m args below meth c H1 locs1 cells slots Q (F0 m r.2.2.1 ls [.ref q])) :
    vo_K p l e R s m args below meth c Q cells slots A H0 D { F0 m pc ls st0 with stack := rest } cs Sx post wn := by
  intro x T' locs1 X' hx hu hS
  obtain ⟨cell, c1, c2, cls, c3, c4⟩ := hx
  obtain ⟨u, hp, hP, hD⟩ := hu
  have hpl : e.platform.magicAccessors = ({} : Platform).magicAccessors := by rw [X'.admits.platform]
  have hhS : ((T'.setTop { F0 m pc ls st0 with stack := rest }).pushFrame (.throwing x)).heap = T'.heap := Stand.throwing_heap _ _ _
  have hvS : ((T'.setTop { F0 m pc ls st0 with stack := rest }).pushFrame (.throwing x)).vm = T'.vm := Stand.throwing_vm _ _ _
  have mem : ∀ r ∈ c.exceptionTable.toList, (r.startPc, r.endPc, r.handlerPc, r.catchType) ∈ tb := fun r hr => by rw [← htab]; exact List.mem_map.mpr ⟨r, hr, rfl⟩
  obtain ⟨r, hr, vm1, hw1, hgo⟩ := vt_seek (e := e) (S := (T'.setTop { F0 m pc ls st0 with stack := rest }).pushFrame (.throwing x)) (f := { F0 m pc ls st0 with stack := rest }) hown hpl rfl (x := x) (cell := cell) (by rw [hhS]; exact c1) (fun k h => by rw [c2] at h; cases h) c4 nm c.exceptionTable.toList
    (fun r hr => ⟨(hrows _ (mem r hr)).1, (hrows _ (mem r hr)).2.1, (hrows _ (mem r hr)).2.2⟩) (by
      obtain ⟨r, hr, hc⟩ := hcast cls c3
      rw [← htab] at hr
      obtain ⟨r0, hr0, rfl⟩ := List.mem_map.mp hr
      exact ⟨r0, hr0, hc⟩) T'.vm X'.warmed
  have eS : ((T'.setTop { F0 m pc ls st0 with stack := rest }).pushFrame (.throwing x)).setVm T'.vm = (T'.setTop { F0 m pc ls st0 with stack := rest }).pushFrame (.throwing x) := by
    have z := State.setVm_self ((T'.setTop { F0 m pc ls st0 with stack := rest }).pushFrame (.throwing x))
    rw [hvS] at z
    exact z
  have hgo2 : ∀ (Q' : Handler → Pre) (E : CtlPost) (d : Bool) (acts : List Action), wp (findHandler { F0 m pc ls st0 with stack := rest } x) Q' E e d acts ((T'.setTop { F0 m pc ls st0 with stack := rest }).pushFrame (.throwing x)) ↔ Q' (.found r.handlerPc) d acts (((T'.setTop { F0 m pc ls st0 with stack := rest }).pushFrame (.throwing x)).setVm vm1) := by
    intro Q' E d acts
    rw [W.findHandler_eq (s := (T'.setTop { F0 m pc ls st0 with stack := rest }).pushFrame (.throwing x)) (f := { F0 m pc ls st0 with stack := rest }) (meth := meth) (code := c) X'.method' X'.code]
    have z := hgo Q' E d acts
    rw [eS] at z
    exact z
  obtain ⟨t2, a1, b1⟩ := kk _ (mem r hr) x u T'.heap locs1 hp hP hD hS (T'.setVm vm1) rfl (X'.noted hw1)
  refine ⟨t2, ?_, b1⟩
  have hAt : At T' m c below := X'.here
  obtain ⟨hgoes, hwi⟩ := At.throwing (g := { F0 m pc ls st0 with stack := rest }) hAt x
  refine Steps.head hgoes hwi ?_
  rw [stepThread_throwing (frames_entered hAt.top _)]
  have hstep : (stepThrowing e ((T'.setTop { F0 m pc ls st0 with stack := rest }).pushFrame (.throwing x)) x (.java { F0 m pc ls st0 with stack := rest } :: T'.frames.tail)).1 = (T'.setVm vm1).setTop (F0 m r.handlerPc ls [.ref x]) := by
    simp only [stepThrowing, searchFrame, vmDo]
    generalize hres : Sem.go _ e false [] _ = res
    obtain ⟨as, rfl, -⟩ := Sem.eq_ok_of hres (a := Handler.found r.handlerPc) (s' := ((T'.setTop { F0 m pc ls st0 with stack := rest }).pushFrame (.throwing x)).setVm vm1) (acts' := []) (by simp [hgo2 _ _ _ _])
    obtain ⟨g₀, hg⟩ := Option.isSome_iff_exists.mp hAt.top
    obtain ⟨r', hr'⟩ := State.topJava?_eq_some.mp hg
    have hr2 : (T'.setVm vm1).frames = .java g₀ :: r' := hr'
    rw [State.setTop_of_frames _ hr2, hr', State.pushFrame, State.setTop_of_frames _ hr']
    show ((((T'.setFrames _).setFrames _).setVm _).setFrames _) = _
    rw [State.setFrames_setFrames]
    show (((T'.setVm _).setFrames _).setFrames _) = _
    rw [State.setFrames_setFrames]
    rfl
  rw [hstep]
  exact a1
end VO7
