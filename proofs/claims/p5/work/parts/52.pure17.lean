/-! a throw with what the heap holds behind it; its way into a handler -/
section VO5
variable {p : Program} {l : Launch} {e : Env} {R : Room} {s : State} {m : MethodId} {args : Array Value} {below : List Frame} {meth : Method} {c : Code} {T : State} {H : Heap} {locs : List Loc} {cells slots : Nat}
theorem vo_rebase {k n : Nat} (X : Stand p l e R s m args below meth c T locs cells slots) (hc : cells + k ≤ R.cells) (hs : slots + n ≤ R.slots) : Stand p l e { R with cells := k, slots := n } ({ s with heap := T.heap, slotsUsed := T.slotsUsed } : State) m args below meth c T [] 0 0 := by
  have h1 := X.heapSize
  have h2 := X.used
  have h3 := X.book
  refine ⟨X.admits, X.cas, X.clock, X.frames, ?_, X.hears, X.method, X.code, X.here, X.tail, X.warmed, X.limits, X.bytes, ?_⟩
  · have h := X.room
    simp only [State.hasRoom, Bool.and_eq_true, decide_eq_true_eq] at h ⊢
    obtain ⟨⟨⟨⟨a1, a2⟩, a3⟩, a4⟩, a5⟩ := h
    exact ⟨⟨⟨⟨a1, a2⟩, by show T.heap.size + k ≤ _; omega⟩, by show T.slotsUsed + n ≤ _; omega⟩, h3⟩
  · refine ⟨X.same.1, Nat.le_refl _, Nat.le_refl _, ?_, ?_, fun a c h => ⟨c, h, rfl, rfl, fun _ _ => rfl⟩⟩
    · show T.slotsUsed = T.slotsUsed + ((T.heap.toList.drop T.heap.size).map (·.slots.size)).sum
      rw [List.drop_eq_nil_of_le (by simp)]
      rfl
    · show ((T.heap.toList.drop T.heap.size).map (·.slots.size)).sum ≤ 0
      rw [List.drop_eq_nil_of_le (by simp)]
      exact Nat.le_refl _
theorem vo_same {t : State} {L : List Loc} {k n : Nat} (X : Stand p l e R s m args below meth c T locs cells slots) (h : ({ s with heap := T.heap, slotsUsed := T.slotsUsed } : State).sameButNew ({ t with vm := s.vm } : State) L k n) : s.sameButNew ({ t with vm := s.vm } : State) (locs ++ L) (cells + k) (slots + n) := by
  refine X.same.trans ⟨?_, h.2⟩
  have b := X.same.1
  have a := h.1
  refine a.trans ?_
  have c : (T.setVm s.vm).setFrames ({ t with vm := s.vm } : State).frames = ({ s.setFrames ({ t with vm := s.vm } : State).frames with heap := T.heap, slotsUsed := T.slotsUsed } : State) := by
    rw [b]
    show ({ (s.setFrames _).setFrames ({ t with vm := s.vm } : State).frames with heap := T.heap, slotsUsed := T.slotsUsed } : State) = _
    rw [State.setFrames_setFrames]
  rw [c]
  rfl
variable {pc : Nat} {ls : Array Slot} {A : Nat → Prop} {cs : List String} {Qc : Array Value → State → Outcome → State → Prop} {cc : ByteArray}
theorem vo_throw {cls : String} {S : Type} {post : S → Prop} {B : S → State → Prop} {k n : Nat} (hcs : cls ∈ cs) (hS : va_S A s.heap H locs) {u : S} (hp : post u) (hB : ∀ t : State, H.size ≤ t.heap.size → (∀ q : Nat, q < H.size → t.heap[q]? = H[q]?) → B u t)
    (hRc : cells + 1 ≤ R.cells) (hRs : slots + 6 ≤ R.slots) (h1 : cells + 1 ≤ k) (h2 : slots + 6 ≤ n)
    (hth : ∀ s' : State, s'.vm = s.vm → s'.heap = H → W p l e { R with cells := 1, slots := 6 } s' m args below meth c H [] 0 0 (vt_MQ below (vt_Q cls (fun _ => False)) args s' 1 6 (fun _ => False)) (F0 m pc ls [])) :
    W p l e R s m args below meth c H locs cells slots (vo_MQ below Qc (vo_T cs post B A) args s k n A) (F0 m pc ls []) := by
  intro T hT X
  obtain ⟨t, st, x, hrun, hend, ⟨⟨cell, k1, k2, k3⟩, hz, hk⟩, hW, L, hsame, hL⟩ := hth ({ s with heap := T.heap, slotsUsed := T.slotsUsed } : State) rfl hT T hT (vo_rebase X hRc hRs)
  have hz' : H.size ≤ t.heap.size := by rw [← hT]; exact hz
  have hk' : ∀ q : Nat, q < H.size → t.heap[q]? = H[q]? := fun q hq => by rw [← hT] at hq ⊢; exact hk q hq (fun z => z)
  refine ⟨t, st, Or.inr ⟨x, hrun, hend, ⟨⟨cell, k1, k2, cls, hcs, k3⟩, ⟨u, hp, hB t hz' hk'⟩, Nat.le_trans hS.1 hz', fun q h3 h4 => (hk' q (Nat.lt_of_lt_of_le h3 hS.1)).trans (hS.2.1 q h3 h4)⟩, hW, locs ++ L, (vo_same X hsame).weaken (fun y hy _ => hy) h1 h2, fun q hq => ?_⟩⟩
  rcases List.mem_append.mp hq with h | h
  · exact hS.2.2 q h
  · exact (hL q h).elim
theorem vo_lt {D : va_G} {q : Nat × va_E} (h : va_at D cL q H) : q.1 < H.size := by
  obtain ⟨a, x⟩ := q
  cases x with
  | inl x => exact (Array.getElem?_eq_some_iff.mp h).1
  | inr x =>
    obtain ⟨r, h1, cell, q1, q2, q3, q4⟩ := h
    exact (Array.getElem?_eq_some_iff.mp q1).1
theorem vo_P {D : va_G} {ws : va_W} {H1 : Heap} (hP : va_P D cL ws H) (hk : ∀ q : Nat, q < H.size → H1[q]? = H[q]?) : va_P D cL ws H1 := hP.kept (fun k q hq => hk q.1 (vo_lt (hP k q hq)))
theorem vo_end {D : va_G} {ws : va_W} {A : Nat → Prop} (hP : va_P D cL ws H) (hD : va_D A ws) : ∀ t : State, H.size ≤ t.heap.size → (∀ q : Nat, q < H.size → t.heap[q]? = H[q]?) → post_ D A ws t := fun t _ hk => ⟨vo_P hP hk, hD⟩
end VO5
section VO6
variable {p : Program} {l : Launch} {e : Env} {R : Room} {s : State} {m : MethodId} {args : Array Value} {below : List Frame} {meth : Method} {c : Code} {H : Heap} {locs : List Loc} {cells slots : Nat} {pc : Nat} {ls : Array Slot} {A : Nat → Prop} {cc : ByteArray}
theorem th_go2 (hexec : p.tables.exec = Jvm.exec) (hb : c.code = cc) (hl : l.stackTraces = false) {cls : String} {ic ix it : Nat} {tx : String} (hown : s.vm.findClass "TaleMachine" = some m.cls) (hcls : Bundle.fit cls = true)
    (h : ∀ w ∈ Bundle.ownAtoms "TaleMachine" ic cls vs_up, w.before args s = true) (hcl : (Cond.classLink "TaleMachine" ix cls).before args s = true) (hini : (Cond.initialized cls).before args s = true) (hqm : ∃ a : Nat, vk_R "TaleMachine" it tx a s)
    (hS : va_S A s.heap H locs) (hns : ∀ q, A q → ∀ cell : Cell, s.heap[q]? = some cell → cell.vm.isStatics = false)
    (hne : c.exceptionTable.isEmpty = true) (hsz : ls.size = c.maxLocals) (hlocks : meth.locks = false) (d0 : decode cc pc = .ok (.new ix, 3)) (d3 : decode cc (pc + 3) = .ok (.dup, 1)) (d4 : decode cc (pc + 4) = .ok (.ldc it, 2)) (d6 : decode cc (pc + 6) = .ok (.invokespecial ic, 3)) (d9 : decode cc (pc + 9) = .ok (.athrow, 1))
    (hRf : 5 < R.frames) (hRl : 100 ≤ R.locals) (hRc : cells + 1 ≤ R.cells) (hRs : slots + 6 ≤ R.slots) {mc ms : Nat} (h1 : cells + 1 ≤ mc) (h2 : slots + 6 ≤ ms) :
    W p l e R s m args below meth c H locs cells slots (vt_MQ below (vt_Q cls A) args s mc ms A) (F0 m pc ls []) := by
  refine W.newc hexec hb hown hcl (n := 6) (h _ (by simp [Bundle.ownAtoms])) hini (g := F0 m pc ls []) rfl d0 hRc hRs (fun cC kC e1 e2 e3 e4 => ?_)
  refine W.eq (g2 := F0 m (pc + 3) ls [.ref H.size]) rfl ?_
  refine lv_dup hexec hb d3 rfl ?_
  obtain ⟨qm, hqm⟩ := hqm
  refine va_ldcS hexec hb hown hqm d4 ?_
  refine W.widen (k := mc) (n := ms) h1 h2 ?_
  refine vt_throwS (q := H.size) (qm := qm) (cX := cC) (kX := kC) hexec hb hl hown hcls (names := vs_up) (by decide) h (H := H.push { cls := cC, slots := kC.instanceTypes.map defaultValue, vm := .none }) (locs := locs) ⟨by rw [Array.size_push]; exact Nat.le_trans hS.1 (Nat.le_succ _), fun z hz hzA => ?_, hS.2.2⟩ hns e1 e2 (by simp) hS.1 hne hsz hlocks d6 d9 hRf ?_
  · rw [Array.getElem?_push, if_neg (by have := hS.1; omega)]
    exact hS.2.1 z hz hzA
  · show 2 * 0 + (1 + 0) + (13 * (2 + 1) + 42) ≤ R.locals
    omega
variable {cs : List String} {Qc : Array Value → State → Outcome → State → Prop} {S : Type} {post : S → Prop} {B : S → State → Prop} {k n : Nat}
theorem ZZ_at {s' : State} (hZ : vt_ZZ A s s.heap) (hS : va_S A s.heap H locs) (hv : s'.vm = s.vm) (hh : s'.heap = H) : vt_ZZ (fun _ => False) s' s'.heap := by
  rw [hh]
  exact ((hZ.kept hS.2.1).moved (by rw [hv]; exact Vm.Alike.refl s.vm)).narrow (fun _ _ h => h.elim)
theorem S_none {s' : State} (hh : s'.heap = H) : va_S (fun _ => False) s'.heap H [] := by
  rw [hh]
  exact ⟨Nat.le_refl _, fun _ _ _ => rfl, fun _ h => absurd h List.not_mem_nil⟩
theorem tg_A (hexec : p.tables.exec = Jvm.exec) (hb : c.code = cc) (hl : l.stackTraces = false) (hown : s.vm.findClass "TaleMachine" = some m.cls) (hT : Tb s) (hZ : vt_ZZ A s s.heap) {ix it : Nat} {tx : String} (hcl : (Cond.classLink "TaleMachine" ix "java/lang/IllegalArgumentException").before args s = true) (hini : (Cond.initialized "java/lang/IllegalArgumentException").before args s = true) (hqm : ∃ a : Nat, vk_R "TaleMachine" it tx a s)
    (hcs : "java/lang/IllegalArgumentException" ∈ cs) (hS : va_S A s.heap H locs) {u : S} (hp : post u) (hB : ∀ t : State, H.size ≤ t.heap.size → (∀ q : Nat, q < H.size → t.heap[q]? = H[q]?) → B u t)
    (hne : c.exceptionTable.isEmpty = true) (hsz : ls.size = c.maxLocals) (hlocks : meth.locks = false) (d0 : decode cc pc = .ok (.new ix, 3)) (d3 : decode cc (pc + 3) = .ok (.dup, 1)) (d4 : decode cc (pc + 4) = .ok (.ldc it, 2)) (d6 : decode cc (pc + 6) = .ok (.invokespecial 51, 3)) (d9 : decode cc (pc + 9) = .ok (.athrow, 1))
    (hRf : 5 < R.frames) (hRl : 100 ≤ R.locals) (hRc : cells + 1 ≤ R.cells) (hRs : slots + 6 ≤ R.slots) (h1 : cells + 1 ≤ k) (h2 : slots + 6 ≤ n) :
    W p l e R s m args below meth c H locs cells slots (vo_MQ below Qc (vo_T cs post B A) args s k n A) (F0 m pc ls []) :=
  vo_throw hcs hS hp hB hRc hRs h1 h2 (fun s' hv hh => by
    have hW : s.WarmedH s'.vm := by rw [hv]; exact State.WarmedH.refl s
    exact th_go2 (R := { R with cells := 1, slots := 6 }) (cells := 0) (slots := 0) (mc := 1) (ms := 6) (s := s') (A := fun _ => False) (tx := tx) hexec hb hl (by rw [hv]; exact hown) (by decide) (Tb_A (hT.warm hW) (ZZ_at hZ hS hv hh)) (va_tabs rfl hv.symm hcl) (va_tabs rfl hv.symm hini) (by obtain ⟨a, ha⟩ := hqm; exact ⟨a, vk_R.warm hW ha⟩) (S_none hh) (fun _ h => h.elim) hne hsz hlocks d0 d3 d4 d6 d9 hRf hRl (Nat.le_refl _) (Nat.le_refl _) (Nat.le_refl _) (Nat.le_refl _))
theorem tg_S (hexec : p.tables.exec = Jvm.exec) (hb : c.code = cc) (hl : l.stackTraces = false) (hown : s.vm.findClass "TaleMachine" = some m.cls) (hT : Tc s) (hZ : vt_ZZ A s s.heap) {ix it : Nat} {tx : String} (hcl : (Cond.classLink "TaleMachine" ix "java/lang/IllegalStateException").before args s = true) (hini : (Cond.initialized "java/lang/IllegalStateException").before args s = true) (hqm : ∃ a : Nat, vk_R "TaleMachine" it tx a s)
    (hcs : "java/lang/IllegalStateException" ∈ cs) (hS : va_S A s.heap H locs) {u : S} (hp : post u) (hB : ∀ t : State, H.size ≤ t.heap.size → (∀ q : Nat, q < H.size → t.heap[q]? = H[q]?) → B u t)
    (hne : c.exceptionTable.isEmpty = true) (hsz : ls.size = c.maxLocals) (hlocks : meth.locks = false) (d0 : decode cc pc = .ok (.new ix, 3)) (d3 : decode cc (pc + 3) = .ok (.dup, 1)) (d4 : decode cc (pc + 4) = .ok (.ldc it, 2)) (d6 : decode cc (pc + 6) = .ok (.invokespecial 65, 3)) (d9 : decode cc (pc + 9) = .ok (.athrow, 1))
    (hRf : 5 < R.frames) (hRl : 100 ≤ R.locals) (hRc : cells + 1 ≤ R.cells) (hRs : slots + 6 ≤ R.slots) (h1 : cells + 1 ≤ k) (h2 : slots + 6 ≤ n) :
    W p l e R s m args below meth c H locs cells slots (vo_MQ below Qc (vo_T cs post B A) args s k n A) (F0 m pc ls []) :=
  vo_throw hcs hS hp hB hRc hRs h1 h2 (fun s' hv hh => by
    have hW : s.WarmedH s'.vm := by rw [hv]; exact State.WarmedH.refl s
    exact th_go2 (R := { R with cells := 1, slots := 6 }) (cells := 0) (slots := 0) (mc := 1) (ms := 6) (s := s') (A := fun _ => False) (tx := tx) hexec hb hl (by rw [hv]; exact hown) (by decide) (Tc_S (hT.warm hW) (ZZ_at hZ hS hv hh)) (va_tabs rfl hv.symm hcl) (va_tabs rfl hv.symm hini) (by obtain ⟨a, ha⟩ := hqm; exact ⟨a, vk_R.warm hW ha⟩) (S_none hh) (fun _ h => h.elim) hne hsz hlocks d0 d3 d4 d6 d9 hRf hRl (Nat.le_refl _) (Nat.le_refl _) (Nat.le_refl _) (Nat.le_refl _))
theorem tg_N (hexec : p.tables.exec = Jvm.exec) (hb : c.code = cc) (hl : l.stackTraces = false) (hown : s.vm.findClass "TaleMachine" = some m.cls) (hT : Tb s) (hZ : vt_ZZ A s s.heap) {ix it : Nat} {tx : String} (hcl : (Cond.classLink "TaleMachine" ix vs_NS).before args s = true) (hini : (Cond.initialized vs_NS).before args s = true) (htx : (it, tx) ∈ vs_texts)
    (hcs : vs_NS ∈ cs) (hS : va_S A s.heap H locs) {u : S} (hp : post u) (hB : ∀ t : State, H.size ≤ t.heap.size → (∀ q : Nat, q < H.size → t.heap[q]? = H[q]?) → B u t)
    (hne : c.exceptionTable.isEmpty = true) (hsz : ls.size = c.maxLocals) (hlocks : meth.locks = false) (d0 : decode cc pc = .ok (.new ix, 3)) (d3 : decode cc (pc + 3) = .ok (.dup, 1)) (d4 : decode cc (pc + 4) = .ok (.ldc it, 2)) (d6 : decode cc (pc + 6) = .ok (.invokespecial 80, 3)) (d9 : decode cc (pc + 9) = .ok (.athrow, 1))
    (hRf : 5 < R.frames) (hRl : 100 ≤ R.locals) (hRc : cells + 1 ≤ R.cells) (hRs : slots + 6 ≤ R.slots) (h1 : cells + 1 ≤ k) (h2 : slots + 6 ≤ n) :
    W p l e R s m args below meth c H locs cells slots (vo_MQ below Qc (vo_T cs post B A) args s k n A) (F0 m pc ls []) :=
  vo_throw hcs hS hp hB hRc hRs h1 h2 (fun s' hv hh => by
    have hW : s.WarmedH s'.vm := by rw [hv]; exact State.WarmedH.refl s
    exact th_goN (s := s') (A := fun _ => False) (tx := tx) hexec hb hl (by rw [hv]; exact hown) (Tb_N (hT.warm hW) (ZZ_at hZ hS hv hh)) (va_tabs rfl hv.symm hcl) (va_tabs rfl hv.symm hini) (hT.warm hW) htx (S_none hh) (fun _ h => h.elim) hne hsz hlocks d0 d3 d4 d6 d9 hRf hRl (Nat.le_refl _) (Nat.le_refl _) (Nat.le_refl _) (Nat.le_refl _))
end VO6
