/-! Methods that throw: a contract's end that is a throw (vt_Met), the call of such a method, its way out of a caller without handlers, its way into a caller's handler, and the making and throwing of an exception with a String constant. -/
def vt_Met (l : Launch) (y : MethodName) (ws : List Cond) (rm : Room) (Pc : Array Value → State → Prop) (Qx : Array Value → State → Addr → State → Prop) (mc ms : Nat) (free : Addr → Prop) : Prop :=
  MetFree l y (headSpec ws rm) Pc (fun _ _ _ _ _ => True) (fun a st o t => ∃ x, o = .threw x ∧ Qx a st x t ∧ st.WarmedH t.vm ∧ ∃ L, st.sameButNew ({ t with vm := st.vm } : State) L mc ms ∧ ∀ q ∈ L, free q.base)
def vt_MQ (below : List Frame) (Qx : Array Value → State → Addr → State → Prop) (a : Array Value) (s : State) (mc ms : Nat) (free : Addr → Prop) : State → Prop := fun t =>
  ∃ x, t.status = .running ∧ Ended t below (.threw x) ∧ Qx a s x t ∧ s.WarmedH t.vm ∧ ∃ L, s.sameButNew ({ t with vm := s.vm } : State) L mc ms ∧ ∀ q ∈ L, free q.base
/-- what a thrower's end says: the thrown cell's class; what isn't the method's own stays -/
def vt_Q (cls : String) (A : Nat → Prop) : Array Value → State → Addr → State → Prop := fun _ st x t => (∃ cell : Cell, t.heap[x]? = some cell ∧ cell.vm = .none ∧ st.vm.findClass cls = some cell.cls) ∧ va_F A st t
def vt_PostOf (Qx : Array Value → State → Addr → State → Prop) (mc ms : Nat) (free : Addr → Prop) : Pt → Array Value → Addr → Pt → Prop := fun A a x B =>
  ∃ (g : JFrame) (mk : MethodId) (t : State) (L : List Loc), B.U.heap = t.heap ∧ B.U.vm = t.vm ∧ Qx a (A.U.calling g mk a) x t ∧ B.locs = A.locs ++ L ∧ (∀ q ∈ L, free q.base) ∧ B.cells = A.cells + mc ∧ B.slots = A.slots + ms
def vt_Back (l : Launch) (R : Room) (p : Program) (e : Env) (below : List Frame) (s : State) (sargs : Array Value) (y : MethodName) (len W : Nat) (Pre : Pt → Array Value → Prop) (Post : Pt → Array Value → Addr → Pt → Prop) : Prop :=
  ∀ (m : MethodId) (meth : Method) (c : Code) (A : Pt) (g : JFrame) (ig : Instr) (mk : MethodId) (a : Array Value),
    Stand p l e R s m sargs below meth c A.U A.locs A.cells A.slots → g.method = m → g.locals.size = c.maxLocals → decode c.code g.pc = .ok (ig, len) →
    2 * g.monitorRoom + (g.stack.map fun v => v.category).sum ≤ W → A.U.methodNamed? y = some mk → Pre A a →
    ∃ (x : Addr) (B : Pt), Stand p l e R s m sargs below meth c B.U B.locs B.cells B.slots ∧ Post A a x B ∧
      Steps p.tables e below (doInvoke e (A.U.setTop g) [] mk a).1 ((B.U.setTop g).pushFrame (.throwing x))
theorem vt_same {s t : State} {locs : List Loc} {k n : Nat} {A : Nat → Prop} (h : s.sameButNew t locs k n) (hA : ∀ q ∈ locs, A q.base) : ∀ q : Nat, q < s.heap.size → ¬ A q → t.heap[q]? = s.heap[q]? := by
  intro q hq hn
  have hc : s.heap[q]? = some s.heap[q] := Array.getElem?_eq_getElem hq
  obtain ⟨c', h1, h2, -, h4⟩ := h.2.2.2.2.2 q _ hc
  have h5 : c'.slots = (s.heap[q]).slots := Array.ext_getElem? (fun i => h4 i (fun hm => hn (hA _ hm)))
  rw [h1, hc, h2, h5]
section VT1
variable {l : Launch}
theorem vt_ofW {y : MethodName} {ws ws' : List Cond} {rm : Room} {Pc : Array Value → State → Prop} {Qx : Array Value → State → Addr → State → Prop} {mc ms : Nat} {free : Addr → Prop} {cc : ByteArray} {maxL : Nat} {ret : Option FieldType}
    (hy : plainName y.cls = true) (hw : ws = Cond.code y cc maxL ret :: ws')
    (body : ∀ p e s m args below meth c s₁, BodyLoose p l y (headSpec ws rm) cc maxL ret e s m args below meth c s₁ → c.maxLocals = maxL → c.exceptionTable.isEmpty = true → Pc args s →
      W p l e (headSpec ws rm).room s m args below meth c s.heap [] 0 0 (vt_MQ below Qx args s mc ms free) (entryFrame m args maxL)) : vt_Met l y ws rm Pc Qx mc ms free := by
  refine MetFree.of_bodyS (code := cc) (maxLocals := maxL) (ret := ret) hy ?_ ?_
  · intro args s m h hn
    obtain ⟨meth, c, h1, h2, h3, h4, h5, h6, -, -⟩ := Cond.code_spec hn (atoms_spec (ws := ws) h _ (by rw [hw]; exact List.mem_cons_self))
    exact ⟨meth, c, h1, h2, h3, h4, h5, h6⟩
  · intro p e s m args below meth c s₁ B hml hP _
    have hh0 : s₁.heap = s.heap := by rw [B.state]; rfl
    have hne := B.noHandlers (atoms_spec (ws := ws) B.pre _ (by rw [hw]; exact List.mem_cons_self))
    obtain ⟨t, a1, x, b1, b2, b3⟩ := body p e s m args below meth c s₁ B hml hne hP s₁ hh0 (Stand.of_body B)
    exact ⟨t, .threw x, a1, b1, b2, x, rfl, b3⟩
end VT1
section VT2
variable {l : Launch} {R : Room} {p : Program} {e : Env} {below : List Frame} {s : State} {sargs : Array Value} {y : MethodName} {len W : Nat}
theorem vt_back {ws : List Cond} {rm : Room} {Pc : Array Value → State → Prop} {Qx : Array Value → State → Addr → State → Prop} {mc ms : Nat} {free : Addr → Prop} {bytes : ByteArray} {maxL : Nat} {ret : Option FieldType}
    (hM : vt_Met l y ws rm Pc Qx mc ms free) (hblind : FrameBlind Pc) (hrc : rm.cells = mc) (hrs : rm.slots = ms)
    (hframes : rm.frames + 1 ≤ R.frames) (hlocals : W + (maxL + 11) + rm.locals ≤ R.locals)
    (hws : ∀ w ∈ ws, ∀ (a' : Array Value) (U : State), s.WarmedH U.vm → w.before a' U = true) (hcode : Cond.code y bytes maxL ret ∈ ws) (hinit : ∀ (a' : Array Value) (U : State), s.WarmedH U.vm → (Cond.initialized y.cls).before a' U = true) :
    vt_Back l R p e below s sargs y len W (PreOf R mc ms Pc) (vt_PostOf Qx mc ms free) := by
  intro m meth c A g ig mk a X hg hsize hdg hW hn hp
  obtain ⟨U, Ls, c0, s0⟩ := A
  obtain ⟨hp1, hp2, hp3⟩ := hp
  dsimp only [Pt.U, Pt.locs, Pt.cells, Pt.slots] at X hn hp1 hp2 hp3 ⊢
  subst hrc; subst hrs
  obtain ⟨methY, cY, hmY, hcY, -, hlY, -, -, -, -⟩ := Cond.code_spec hn (hws _ hcode a U X.warmed)
  obtain ⟨kY, hkY, -⟩ := className_of_methodNamed hn
  have hinitY : kY.init = .initialized := Cond.initialized_spec (findClass_of_methodNamed hn) hkY (hinit a U X.warmed)
  have h : At U g.method c below := by rw [hg]; exact X.here
  have happ : (headSpec ws rm).appliesLoose y e.platform (U.calling g mk a) = true :=
    Spec.appliesLoose_calling (g := g) h hdg hn hkY hinitY
      (X.room_calling (g := g) (R' := rm) hsize hmY hcY hframes (by rw [hlY]; omega) hp1 hp2) (atoms_intro fun w hw => hws w hw _ _ X.warmed)
  obtain ⟨mid, hmid⟩ := h.above
  have hfr : (U.setTop g).frames = (.java g :: mid) ++ below := by rw [State.frames_setTop' g h.top, hmid]; rfl
  obtain ⟨o, s₂, hsteps, -, hend, hq⟩ := Steps.callFree hM p X.admits X.cas X.clock (acts := []) hfr happ (hblind _ _ _ _ hp3) trivial
  obtain ⟨x, rfl, hq, hWs, L, hsame, hL⟩ := hq
  rw [State.frames_setTop' g h.top, X.tail] at hend
  obtain ⟨T', X', -, -, ht⟩ := X.outOfThrown (g := g) (mk := mk) (a := a) hg hend hWs hsame
  refine ⟨x, ⟨T', Ls ++ L, c0 + rm.cells, s0 + rm.slots⟩, X', ⟨g, mk, s₂, L, ?_, ?_, hq, rfl, hL, rfl, rfl⟩, ?_⟩
  · rw [ht]; exact (Stand.throwing_heap T' g x).symm
  · rw [ht]; exact (Stand.throwing_vm T' g x).symm
  · show Steps p.tables e below _ ((T'.setTop g).pushFrame (.throwing x))
    rw [← ht]
    exact hsteps
end VT2
section VT3
variable {p : Program} {l : Launch} {e : Env} {R : Room} {s : State} {m : MethodId} {args : Array Value} {below : List Frame} {meth : Method} {c : Code} {H : Heap} {locs : List Loc} {cells slots : Nat} {Q : State → Prop}
variable {y : MethodName} {bytes cc : ByteArray} {maxL nL mc ms n index : Nat} {ret : Option FieldType} {ws : List Cond} {rm : Room} {Pc : Array Value → State → Prop} {Qx : Array Value → State → Addr → State → Prop} {free : Addr → Prop} {Ts : List Cond} {own C : String} {b : Addr} {As rest : List Value} {g : JFrame}
def vt_Run (p : Program) (l : Launch) (e : Env) (R : Room) (s : State) (m : MethodId) (args : Array Value) (below : List Frame) (meth : Method) (c : Code) (H : Heap) (locs : List Loc) (cells slots mc ms : Nat) (g : JFrame) (rest : List Value) (Qa : State → Addr → State → Prop) (free : Addr → Prop) : Prop :=
  ∀ T : State, T.heap = H → Stand p l e R s m args below meth c T locs cells slots → ∃ (x : Addr) (st₀ t T' : State) (L : List Loc), st₀.heap = H ∧ s.vm.Alike st₀.vm ∧ Stand p l e R s m args below meth c T' (locs ++ L) (cells + mc) (slots + ms) ∧ (∀ q ∈ L, free q.base) ∧ T'.heap = t.heap ∧ T'.vm = t.vm ∧ Qa st₀ x t ∧
    ∀ target, Steps p.tables e below ((T'.setTop { g with stack := rest }).pushFrame (.throwing x)) target → Steps p.tables e below (T.setTop g) target
theorem vt_callBack (cb : CallB R s args own index y bytes maxL ret ws rm mc ms n) (hM : vt_Met l y ws rm Pc Qx mc ms free) (hbl : FrameBlind Pc) : vt_Back l R p e below s args y 3 8 (PreOf R mc ms Pc) (vt_PostOf Qx mc ms free) := by
  obtain ⟨hrc, hrs, hfr, hlo, hws, hcw, -, hini, -⟩ := cb
  exact vt_back (bytes := bytes) (maxL := maxL) (ret := ret) hM hbl hrc hrs hfr hlo hws hcw (fun a' U hW => word_at hW (Or.inl (by first | rfl | simp [Cond.onTables, Cond.keeps, Cond.steady])) hini)
theorem vt_runV (S : CallFix p m c cc nL s args Ts own) (hM : vt_Met l y ws rm Pc Qx mc ms free) (cw : CallW R s args own C index y bytes maxL ret ws rm mc ms n) (hp : PreV s H C b Pc As)
    (hg : g.method = m) (hn : As.length = n) (hsize : g.locals.size = nL) (hstack : g.stack = As.reverse ++ .ref b :: rest) (hW : 2 * g.monitorRoom + (rest.map fun v => v.category).sum ≤ 8) (hdg : decode cc g.pc = .ok (.invokevirtual index, 3)) (hf : cells + mc ≤ R.cells ∧ slots + ms ≤ R.slots) :
    vt_Run p l e R s m args below meth c H locs cells slots mc ms g rest (Qx (Value.ref b :: As).toArray) free := by
  have hK : vt_Back l R p e below s args y 3 8 (PreOf R mc ms Pc) (vt_PostOf Qx mc ms free) := vt_callBack cw.1 hM hp.1
  obtain ⟨⟨-, -, -, -, -, -, hcode, -, hy, hlen, hlink⟩, hinst, hsel⟩ := cw
  obtain ⟨hexec, hb, hml, hown, -⟩ := S
  obtain ⟨-, ⟨cellB, hcB, hobj, hcls⟩, hPc⟩ := hp
  intro T hT X
  obtain ⟨mk, methM, hnamed, hmethM, hstM, habM⟩ := Cond.instanceMethod_spec hinst
  obtain ⟨methM', cM, hmethM', -, -, -, -, -, -, hsigM⟩ := Cond.code_spec hnamed hcode
  cases hmethM.symm.trans hmethM'
  obtain ⟨c2, r2, m2, q1, q2, q3, q4, kP, hkP, hkPi⟩ := Cond.selects_spec hsel
  cases hcls.symm.trans q1
  cases (State.methodFound?_of_named hnamed hy).symm.trans q2
  cases hnamed.symm.trans q3
  have hselP : selectMethod e.platform s.vm cellB.cls mk = .method mk := by rw [Launch.admits_selectMethod X.admits]; exact q4
  obtain ⟨vm₁, X₁, hstep₁⟩ := X.invokevirtual hexec hown hlink hnamed hmethM hstM hkP hkPi hy (a := b) (cell := cellB) (by rw [hT]; exact hcB)
    (fun z h => by rw [h] at hobj; cases hobj) hselP hmethM habM hkP hkPi (g := g) hg (argsL := As) (rest := rest) (hn.trans (hlen _ hsigM)) hstack (by rw [hb]; exact hdg)
  obtain ⟨x, ⟨U', l2, c2, s2⟩, X', ⟨g', mk', t, L, e1, e2, hq, h1, hL, h2, h3⟩, hsteps⟩ := hK m meth c ⟨T.setVm vm₁, locs, cells, slots⟩ { g with stack := rest } (.invokevirtual index) mk (Value.ref b :: As).toArray X₁ hg (hsize.trans hml.symm) (by rw [hb]; exact hdg) hW (X₁.named hnamed) ⟨hf.1, hf.2, hPc (T.setVm vm₁) hT X₁.warmed⟩
  dsimp only [Pt.U, Pt.locs, Pt.cells, Pt.slots] at X' e1 e2 h1 h2 h3 hsteps
  subst h1; subst h2; subst h3
  exact ⟨x, (T.setVm vm₁).calling g' mk' (Value.ref b :: As).toArray, t, U', L, hT, X₁.warmed.alike, X', hL, e1, e2, hq, fun target h => hstep₁ _ fun acts => by rw [doInvoke_state]; exact hsteps.trans h⟩
theorem vt_runS (S : CallFix p m c cc nL s args Ts own) (hM : vt_Met l y ws rm Pc Qx mc ms free) (cw : CallB R s args own index y bytes maxL ret ws rm mc ms n ∧ (Cond.static y).before args s = true) (hp : PreS s H Pc As)
    (hg : g.method = m) (hn : As.length = n) (hsize : g.locals.size = nL) (hstack : g.stack = As.reverse ++ rest) (hW : 2 * g.monitorRoom + (rest.map fun v => v.category).sum ≤ 8) (hdg : decode cc g.pc = .ok (.invokestatic index, 3)) (hf : cells + mc ≤ R.cells ∧ slots + ms ≤ R.slots) :
    vt_Run p l e R s m args below meth c H locs cells slots mc ms g rest (Qx As.toArray) free := by
  have hK : vt_Back l R p e below s args y 3 8 (PreOf R mc ms Pc) (vt_PostOf Qx mc ms free) := vt_callBack cw.1 hM hp.1
  obtain ⟨⟨-, -, -, -, -, -, hcode, hinit, hy, hlen, hlink⟩, hstat⟩ := cw
  obtain ⟨hexec, hb, hml, hown, -⟩ := S
  intro T hT X
  obtain ⟨mk, hnamed⟩ := Cond.code_named hcode
  obtain ⟨methM, cM, hmethM, -, -, -, -, -, -, hsigM⟩ := Cond.code_spec hnamed hcode
  have hstatic : methM.isStatic = true := Cond.static_spec hnamed hmethM hstat
  obtain ⟨kP, hkP, -⟩ := className_of_methodNamed hnamed
  have hinitP : kP.init = .initialized := Cond.initialized_spec (findClass_of_methodNamed hnamed) hkP hinit
  obtain ⟨vm₁, X₁, hstep₁⟩ := X.invokestatic hexec hown hlink hnamed hmethM hstatic hkP hinitP hy (g := g) hg (argsL := As) (rest := rest) (hn.trans (hlen _ hsigM)) hstack (by rw [hb]; exact hdg)
  obtain ⟨x, ⟨U', l2, c2, s2⟩, X', ⟨g', mk', t, L, e1, e2, hq, h1, hL, h2, h3⟩, hsteps⟩ := hK m meth c ⟨T.setVm vm₁, locs, cells, slots⟩ { g with stack := rest } (.invokestatic index) mk As.toArray X₁ hg (hsize.trans hml.symm) (by rw [hb]; exact hdg) hW (X₁.named hnamed) ⟨hf.1, hf.2, hp.2 (T.setVm vm₁) hT X₁.warmed⟩
  dsimp only [Pt.U, Pt.locs, Pt.cells, Pt.slots] at X' e1 e2 h1 h2 h3 hsteps
  subst h1; subst h2; subst h3
  exact ⟨x, (T.setVm vm₁).calling g' mk' As.toArray, t, U', L, hT, X₁.warmed.alike, X', hL, e1, e2, hq, fun target h => hstep₁ _ fun acts => by rw [doInvoke_state]; exact hsteps.trans h⟩
end VT3
section VT4
variable {p : Program} {l : Launch} {e : Env} {R : Room} {s : State} {m : MethodId} {args : Array Value} {below : List Frame} {meth : Method} {c : Code} {H : Heap} {locs : List Loc} {cells slots : Nat} {Q : State → Prop}
variable {pc : Nat} {ls : Array Slot} {rest st0 : List Value} {a : Array Value} {A0 A1 : Nat → Prop} {H0 : Heap} {mc ms : Nat} {free : Addr → Prop} {cls : String}
theorem vt_grow {A0 A1 : Nat → Prop} {H0 H H1 : Heap} {locs L : List Loc} {free : Addr → Prop} (hS : va_S A0 H0 H locs) (hA : ∀ q, q < H.size → A1 q → A0 q) (hf : ∀ q, free q → A0 q) (hL : ∀ q ∈ L, free q.base) (hz : H.size ≤ H1.size) (hk : ∀ q : Nat, q < H.size → ¬ A1 q → H1[q]? = H[q]?) : va_S A0 H0 H1 (locs ++ L) := by
  refine ⟨Nat.le_trans hS.1 hz, fun q h1 h2 => ?_, fun q hq => ?_⟩
  · rw [hk q (Nat.lt_of_lt_of_le h1 hS.1) (fun z => h2 (hA q (Nat.lt_of_lt_of_le h1 hS.1) z))]
    exact hS.2.1 q h1 h2
  · rcases List.mem_append.mp hq with h | h
    · exact hS.2.2 q h
    · exact hf _ (hL q h)
/-- a callee's throw goes out of a method without handlers -/
theorem vt_out (hr : vt_Run p l e R s m args below meth c H locs cells slots mc ms (F0 m pc ls st0) rest (vt_Q cls A1 a) free) (hS : va_S A0 s.heap H locs) (hA : ∀ q, q < H.size → A1 q → A0 q) (hf : ∀ q, free q → A0 q) (hne : c.exceptionTable.isEmpty = true) (hlocks : meth.locks = false) :
    W p l e R s m args below meth c H locs cells slots (vt_MQ below (vt_Q cls A0) args s (cells + mc) (slots + ms) A0) (F0 m pc ls st0) := by
  intro T hT X
  obtain ⟨x, st₀, t, T', L, h0, hal, X', hL, e1, e2, ⟨⟨cell, k1, k2, k3⟩, hz, hk⟩, st⟩ := hr T hT X
  rw [h0] at hz hk
  have hS1 : va_S A0 s.heap T'.heap (locs ++ L) := vt_grow hS hA hf hL (by rw [e1]; exact hz) (fun q h1 h2 => by rw [e1]; exact hk q h1 h2)
  obtain ⟨hw, hrun, hend, hW, hsame⟩ := X'.leaveThrown x (g := { F0 m pc ls st0 with stack := rest }) rfl rfl rfl (covers_of_empty hne _) hlocks
  refine ⟨_, st _ hw, x, hrun, hend, ⟨⟨cell, ?_, k2, ?_⟩, ?_⟩, hW, locs ++ L, hsame, hS1.2.2⟩
  · show T'.heap[x]? = some cell
    rw [e1]; exact k1
  · rw [← hal.findClass]; exact k3
  · exact ⟨hS1.1, hS1.2.1⟩
/-- a callee's throw comes into the first row of the method's own table -/
theorem vt_catch (hr : vt_Run p l e R s m args below meth c H locs cells slots mc ms (F0 m pc ls st0) rest (vt_Q cls A1 a) free) (hS : va_S A0 H0 H locs) (hA : ∀ q, q < H.size → A1 q → A0 q) (hf : ∀ q, free q → A0 q)
    {own name : String} (hown : s.vm.findClass own = some m.cls) {x0 x1 hpc ct : Nat} {hs : List (Nat × Nat × Nat × Nat)} (htab : c.exceptionTable.toList.map (fun h => (h.startPc, h.endPc, h.handlerPc, h.catchType)) = (x0, x1, hpc, ct) :: hs)
    (hcov : (decide (x0 ≤ pc) && decide (pc < x1)) = true) (hct : ct ≠ 0) (hlink : (Cond.classLink own ct name).before args s = true) (hcast : (Cond.castable cls name).before args s = true)
    (kk : ∀ (q : Nat) (H1 : Heap) (locs1 : List Loc), H.size ≤ H1.size → (∀ z : Nat, z < H.size → ¬ A1 z → H1[z]? = H[z]?) → va_S A0 H0 H1 locs1 → W p l e R s m args below meth c H1 locs1 (cells + mc) (slots + ms) Q (F0 m hpc ls [.ref q])) :
    W p l e R s m args below meth c H locs cells slots Q (F0 m pc ls st0) := by
  intro T hT X
  obtain ⟨x, st₀, t, T', L, h0, hal, X', hL, e1, e2, ⟨⟨cell, k1, k2, k3⟩, hz, hk⟩, st⟩ := hr T hT X
  rw [h0] at hz hk
  have hz' : H.size ≤ T'.heap.size := by rw [e1]; exact hz
  have hk' : ∀ q : Nat, q < H.size → ¬ A1 q → T'.heap[q]? = H[q]? := fun q h1 h2 => by rw [e1]; exact hk q h1 h2
  have hS1 : va_S A0 H0 T'.heap (locs ++ L) := vt_grow hS hA hf hL hz' hk'
  -- the row of the table
  obtain ⟨row, rows, hsplit, hr0⟩ : ∃ row rows, c.exceptionTable.toList = row :: rows ∧ (row.startPc, row.endPc, row.handlerPc, row.catchType) = (x0, x1, hpc, ct) := by
    cases hE : c.exceptionTable.toList with
    | nil => rw [hE] at htab; cases htab
    | cons row rows => rw [hE] at htab; exact ⟨row, rows, rfl, (List.cons.inj htab).1⟩
  have r1 : row.startPc = x0 := congrArg Prod.fst hr0
  have r2 : row.endPc = x1 := congrArg (fun z => z.2.1) hr0
  have r3 : row.handlerPc = hpc := congrArg (fun z => z.2.2.1) hr0
  have r4 : row.catchType = ct := congrArg (fun z => z.2.2.2) hr0
  -- its class, by the word
  have hpl : e.platform.magicAccessors = ({} : Platform).magicAccessors := by rw [X'.admits.platform]
  obtain ⟨cT, hcT, hcl⟩ := Cond.classLink_spec hown hlink e.platform hpl
  obtain ⟨c3, c4, hc3, hc4, hasg⟩ := Cond.castable_spec hcast
  cases hcT.symm.trans hc4
  have hcx : s.vm.findClass cls = some cell.cls := by rw [← hal.findClass]; exact k3
  cases hcx.symm.trans hc3
  obtain ⟨dk, _, _, kt, hd, _, _, _, _, hkt, _, hopen⟩ := hcl.here
  have hcl' := X'.warmed.classLinks hcl
  have hW' : s.WarmedH (T'.vm.noted m.cls ct (.cls cT)) := X'.warmed.noted hd hopen (State.rightAt_cls hcl)
  have halT := X'.warmed.alike
  obtain ⟨kt', hkt', -⟩ := halT.2.2 _ _ hkt
  have hfit : T'.vm.assignable cell.cls cT = true := by rw [halT.assignable]; exact hasg
  obtain ⟨kx', hkx'⟩ := Vm.classAt_of_assignable hfit ⟨kt', hkt'⟩
  have hcellx : T'.heap[x]? = some cell := by rw [e1]; exact k1
  -- what the search leaves
  have halN : T'.vm.Alike (T'.vm.noted m.cls ct (.cls cT)) := (Vm.Alike.refl T'.vm).noted _ _ _
  obtain ⟨k1', hk1', -⟩ := halN.2.2 _ _ hkx'
  obtain ⟨k2', hk2', -⟩ := halN.2.2 _ _ hkt'
  have hfitN : (T'.vm.noted m.cls ct (.cls cT)).assignable cell.cls cT = true := by rw [halN.assignable]; exact hfit
  have hgo : ∀ (Q' : Handler → Pre) (E : CtlPost) (d : Bool) (acts : List Action), wp (findHandler { F0 m pc ls st0 with stack := rest } x) Q' E e d acts ((T'.setTop { F0 m pc ls st0 with stack := rest }).pushFrame (.throwing x)) ↔ Q' (.found hpc) d acts (((T'.setTop { F0 m pc ls st0 with stack := rest }).pushFrame (.throwing x)).setVm (T'.vm.noted m.cls ct (.cls cT))) := by
    intro Q' E d acts
    rw [W.findHandler_eq (s := (T'.setTop { F0 m pc ls st0 with stack := rest }).pushFrame (.throwing x)) (f := { F0 m pc ls st0 with stack := rest }) (meth := meth) (code := c) X'.method' X'.code, hsplit]
    have hcv : (decide (row.startPc ≤ pc) && decide (pc < row.endPc)) = true := by rw [r1, r2]; exact hcov
    have hob : ∀ k, cell.vm ≠ .statics k := fun k h => by rw [k2] at h; cases h
    have hvS : ((T'.setTop { F0 m pc ls st0 with stack := rest }).pushFrame (.throwing x)).vm = T'.vm := Stand.throwing_vm _ _ _
    have hhS : ((T'.setTop { F0 m pc ls st0 with stack := rest }).pushFrame (.throwing x)).heap = T'.heap := Stand.throwing_heap _ _ _
    generalize (T'.setTop { F0 m pc ls st0 with stack := rest }).pushFrame (.throwing x) = S at hvS hhS ⊢
    rw [← hvS] at hcl' hfitN hk1' hk2' ⊢
    rw [← hhS] at hcellx
    obtain ⟨ha, ht⟩ := (resolveClass_links e.toSetting hcl').op (op := VmOp.resolveClass m.cls ct) rfl
    simp [findHandler.go, hcv, r3, r4, hct, ha, ht, hcellx, hob, hk1', hk2', hfitN, VmOp.dirties, VmOp.acts]
  obtain ⟨t2, a1, b1⟩ := kk x T'.heap (locs ++ L) hz' hk' hS1 (T'.setVm (T'.vm.noted m.cls ct (.cls cT))) rfl (X'.noted hW')
  refine ⟨t2, st t2 ?_, b1⟩
  have hAt : At T' m c below := X'.here
  obtain ⟨hgoes, hwi⟩ := At.throwing (g := { F0 m pc ls st0 with stack := rest }) hAt x
  refine Steps.head hgoes hwi ?_
  rw [stepThread_throwing (frames_entered hAt.top _)]
  have hstep : (stepThrowing e ((T'.setTop { F0 m pc ls st0 with stack := rest }).pushFrame (.throwing x)) x (.java { F0 m pc ls st0 with stack := rest } :: T'.frames.tail)).1 = (T'.setVm (T'.vm.noted m.cls ct (.cls cT))).setTop (F0 m hpc ls [.ref x]) := by
    simp only [stepThrowing, searchFrame, vmDo]
    generalize hres : Sem.go _ e false [] _ = res
    obtain ⟨as, rfl, -⟩ := Sem.eq_ok_of hres (a := Handler.found hpc) (s' := ((T'.setTop { F0 m pc ls st0 with stack := rest }).pushFrame (.throwing x)).setVm (T'.vm.noted m.cls ct (.cls cT))) (acts' := []) (by simp [hgo _ _ _ _])
    obtain ⟨g₀, hg⟩ := Option.isSome_iff_exists.mp hAt.top
    obtain ⟨r, hr⟩ := State.topJava?_eq_some.mp hg
    have hr2 : (T'.setVm (T'.vm.noted m.cls ct (.cls cT))).frames = .java g₀ :: r := hr
    rw [State.setTop_of_frames _ hr2, hr, State.pushFrame, State.setTop_of_frames _ hr]
    show ((((T'.setFrames _).setFrames _).setVm _).setFrames _) = _
    rw [State.setFrames_setFrames]
    show (((T'.setVm _).setFrames _).setFrames _) = _
    rw [State.setFrames_setFrames]
    rfl
  rw [hstep]
  exact a1
end VT4
/-- a static of Throwable, as the making of an exception reads it -/
def vt_Z1 (n d : String) (A : Nat → Prop) (U : State) (H : Heap) : Prop := ∃ (cf : ClassId) (kf : Class) (fi : Nat) (f : Field) (a : Nat) (cell : Cell) (v : Value), U.vm.findClass Bundle.tN = some cf ∧ U.fieldFound? Bundle.tN n d = some (cf, kf, fi, f) ∧ f.isStatic = true ∧ kf.statics = some a ∧ cell.vm.isStatics = true ∧ cell.cls = cf ∧ f.slot < cell.slots.size ∧ kf.staticTypes[f.slot]? = some f.type ∧ cell.slots[f.slot]? = some v ∧ v.isRef = true ∧ H[a]? = some cell ∧ ¬ A a
theorem vt_Z1.moved {n d : String} {A : Nat → Prop} {u U : State} {H : Heap} (hvm : u.vm.Alike U.vm) (h : vt_Z1 n d A u H) : vt_Z1 n d A U H := by
  obtain ⟨cf, kf, fi, f, a, cell, v, h1, h2, h3, h4, h5, h6, h7, h8, h9⟩ := h
  obtain ⟨k', hi', he⟩ := State.fieldFound?_setVm hvm h2
  exact ⟨cf, k', fi, f, a, cell, v, by rw [hvm.findClass]; exact h1, hi', h3, by rw [he]; exact h4, h5, h6, h7, by rw [he]; exact h8, h9⟩
theorem vt_Z1.kept {n d : String} {A : Nat → Prop} {U : State} {H H1 : Heap} (h : vt_Z1 n d A U H) (hq : ∀ a : Nat, a < H.size → ¬ A a → H1[a]? = H[a]?) : vt_Z1 n d A U H1 := by
  obtain ⟨cf, kf, fi, f, a, cell, v, h1, h2, h3, h4, h5, h6, h7, h8, h9, h10, h11, h12⟩ := h
  exact ⟨cf, kf, fi, f, a, cell, v, h1, h2, h3, h4, h5, h6, h7, h8, h9, h10, by rw [hq a (Array.getElem?_eq_some_iff.mp h11).1 h12]; exact h11, h12⟩
theorem vt_Z1.narrow {n d : String} {A B : Nat → Prop} {U : State} {H : Heap} (h : vt_Z1 n d A U H) (hAB : ∀ q, q < H.size → B q → A q) : vt_Z1 n d B U H := by
  obtain ⟨cf, kf, fi, f, a, cell, v, h1, h2, h3, h4, h5, h6, h7, h8, h9, h10, h11, h12⟩ := h
  exact ⟨cf, kf, fi, f, a, cell, v, h1, h2, h3, h4, h5, h6, h7, h8, h9, h10, h11, fun z => h12 (hAB a (Array.getElem?_eq_some_iff.mp h11).1 z)⟩
theorem vt_Z1.of {args : Array Value} {s : State} {n d : String} {A : Nat → Prop} (hl : (Cond.laysStatic Bundle.tN n d).before args s = true) (hr : (Cond.isRef (.static Bundle.tN n d)).before args s = true) (hA : ∀ a : Nat, a < s.heap.size → ¬ A a) : vt_Z1 n d A s s.heap := by
  obtain ⟨c, k, i, f, a, cell, hc, hi, hst, ha, hcell, hs, hcls, hlt, hty⟩ := Cond.laysStatic_spec hl
  have hsl : cell.slots[f.slot]? = some cell.slots[f.slot] := Array.getElem?_eq_getElem hlt
  generalize cell.slots[f.slot] = w at hsl
  refine ⟨c, k, i, f, a, cell, w, hc, hi, hst, ha, hs, hcls, hlt, hty, hsl, ?_, hcell, hA a (Array.getElem?_eq_some_iff.mp hcell).1⟩
  have hv : (Term.static Bundle.tN n d).eval args s none [] s = some w := by simp [Term.eval, State.fieldNamed?, hi, hst, ha, hcell, hs, hsl]
  simp only [Cond.before, Cond.holds, Cond.value, hv] at hr
  cases w <;> simp_all [Value.isRef]
theorem vt_Z1.lays {args : Array Value} {U : State} {n d : String} {A : Nat → Prop} (h : vt_Z1 n d A U U.heap) : (Cond.laysStatic Bundle.tN n d).before args U = true := by
  obtain ⟨cf, kf, fi, f, a, cell, v, h1, h2, h3, h4, h5, h6, h7, h8, h9, h10, h11, h12⟩ := h
  simp [Cond.before, Cond.holds, Cond.value, h1, h2, h3, h4, h5, h6, h7, h8, h11]
theorem vt_Z1.isRef {args : Array Value} {U : State} {n d : String} {A : Nat → Prop} (h : vt_Z1 n d A U U.heap) : (Cond.isRef (.static Bundle.tN n d)).before args U = true := by
  obtain ⟨cf, kf, fi, f, a, cell, v, h1, h2, h3, h4, h5, h6, h7, h8, h9, h10, h11, h12⟩ := h
  have hv : (Term.static Bundle.tN n d).eval args U none [] U = some v := by simp [Term.eval, State.fieldNamed?, h2, h3, h4, h11, h5, h9]
  simp only [Cond.before, Cond.holds, Cond.value, hv]
  cases v <;> simp_all [Value.isRef]
/-- words of the tables alone, as they hold in a state -/
def vt_J (L : List Cond) (U : State) : Prop := ∀ w ∈ L, w.before #[] U = true
theorem vt_word {w : Cond} (ho : w.onTables = true) (hf : w.keepsFace = true) {a a' : Array Value} {s U : State} (hW : s.WarmedH U.vm) (h : w.before a s = true) : w.before a' U = true := by
  have h1 : w.before a (s.setVm U.vm) = true := Cond.before_shiftedFace (State.Shifted.of_warmed hW) _ hf h
  have h2 := Cond.onTables_vm (A := a) (A' := a') (U := s) (U' := U) U.vm w ho
  rw [h2, State.setVm_self] at h1
  exact h1
theorem vt_J.warm {L : List Cond} (hL : L.all (fun w => w.onTables && w.keepsFace) = true) {s U : State} (hW : s.WarmedH U.vm) (h : vt_J L s) : vt_J L U := fun w hw => by
  have h1 := List.all_eq_true.mp hL w hw
  rw [Bool.and_eq_true] at h1
  exact vt_word h1.1 h1.2 hW (h w hw)
theorem vt_J.same {L : List Cond} (hL : L.all (fun w => w.onTables && w.keepsFace) = true) {s U : State} (hv : U.vm = s.vm) (h : vt_J L s) : vt_J L U := fun w hw => by
  have h1 := List.all_eq_true.mp hL w hw
  rw [Bool.and_eq_true] at h1
  have h2 := Cond.onTables_vm (A := #[]) (A' := #[]) (U := s) (U' := U) s.vm w h1.1
  rw [State.setVm_self, ← hv, State.setVm_self] at h2
  rw [← h2]
  exact h w hw
/-- what an exception's making asks: the words of the tables; the two statics -/
def vt_four : List Cond := [.laysStatic Bundle.tN "UNASSIGNED_STACK" Bundle.steD, .laysStatic Bundle.tN "SUPPRESSED_SENTINEL" Bundle.listD, .isRef (.static Bundle.tN "UNASSIGNED_STACK" Bundle.steD), .isRef (.static Bundle.tN "SUPPRESSED_SENTINEL" Bundle.listD)]
def vt_own (own : String) (ic : Nat) (cls : String) (names : List String) : List Cond := (Bundle.ownAtoms own ic cls names).filter (fun w => w.onTables)
def vt_ZZ (A : Nat → Prop) (U : State) (H : Heap) : Prop := vt_Z1 "UNASSIGNED_STACK" Bundle.steD A U H ∧ vt_Z1 "SUPPRESSED_SENTINEL" Bundle.listD A U H
theorem vt_ZZ.moved {A : Nat → Prop} {u U : State} {H : Heap} (hvm : u.vm.Alike U.vm) (h : vt_ZZ A u H) : vt_ZZ A U H := ⟨h.1.moved hvm, h.2.moved hvm⟩
theorem vt_ZZ.kept {A : Nat → Prop} {U : State} {H H1 : Heap} (h : vt_ZZ A U H) (hq : ∀ a : Nat, a < H.size → ¬ A a → H1[a]? = H[a]?) : vt_ZZ A U H1 := ⟨h.1.kept hq, h.2.kept hq⟩
theorem vt_ZZ.narrow {A B : Nat → Prop} {U : State} {H : Heap} (h : vt_ZZ A U H) (hAB : ∀ q, q < H.size → B q → A q) : vt_ZZ B U H := ⟨h.1.narrow hAB, h.2.narrow hAB⟩
theorem vt_atoms {own cls : String} {ic : Nat} {names : List String} (hd : (Bundle.ownAtoms own ic cls names).all (fun w => w.onTables || decide (w ∈ vt_four)) = true) {A : Nat → Prop} {args : Array Value} {U : State} (hJ : vt_J (vt_own own ic cls names) U) (hZ : vt_ZZ A U U.heap) : ∀ w ∈ Bundle.ownAtoms own ic cls names, w.before args U = true := by
  intro w hw
  by_cases ho : w.onTables = true
  · have h1 := hJ w (List.mem_filter.mpr ⟨hw, ho⟩)
    have h2 := Cond.onTables_vm (A := #[]) (A' := args) (U := U) (U' := U) U.vm w ho
    rw [State.setVm_self] at h2
    rw [← h2]
    exact h1
  · have h1 := List.all_eq_true.mp hd w hw
    simp only [Bool.not_eq_true] at ho
    rw [ho, Bool.false_or, decide_eq_true_eq] at h1
    simp only [vt_four, List.mem_cons, List.not_mem_nil, or_false] at h1
    rcases h1 with rfl | rfl | rfl | rfl
    · exact hZ.1.lays
    · exact hZ.2.lays
    · exact hZ.1.isRef
    · exact hZ.2.isRef
/-- cells of a world are no cells of statics -/
theorem vt_plain {D : va_G} {cl : List vw_C} {ws : va_W} {H : Heap} (hP : va_P D cl ws H) : ∀ q, va_A ws H.size q → ∀ cell : Cell, H[q]? = some cell → cell.vm.isStatics = false := by
  intro q hq cell hc
  rcases hq with ⟨k, e, hk⟩ | hq
  · have h := hP k _ hk
    cases e with
    | inl x =>
      have h1 : H[q]? = some (vp_cell x.1 x.2) := h
      rw [hc] at h1
      rw [Option.some.inj h1]
      obtain ⟨i, n, f⟩ := x
      rcases f with f | f | f | f | f <;> rfl
    | inr o =>
      obtain ⟨r, h1, cell', q1, q2, q3, q4⟩ := h
      have h2 : cell = cell' := Option.some.inj (hc.symm.trans q1)
      rw [h2, q3]; rfl
  · exact absurd (Array.getElem?_eq_some_iff.mp hc).1 (Nat.not_lt.mpr hq)
section VT5
variable {p : Program} {l : Launch} {e : Env} {R : Room} {s : State} {m : MethodId} {args : Array Value} {below : List Frame} {meth : Method} {c : Code} {H : Heap} {locs : List Loc} {cells slots : Nat} {Q : State → Prop}
variable {cc : ByteArray} {pc : Nat} {ls : Array Slot} {rest : List Value} {A : Nat → Prop}
/-- from the call of the exception's constructor to the throw's end -/
theorem vt_throwS (hexec : p.tables.exec = Jvm.exec) (hb : c.code = cc) (hl : l.stackTraces = false) {own cls : String} {names : List String} {ic : Nat} (hown : s.vm.findClass own = some m.cls) (hcls : Bundle.fit cls = true) (hnames : ∀ n ∈ names, Bundle.fit n = true)
    (h : ∀ w ∈ Bundle.ownAtoms own ic cls names, w.before args s = true) (hS : va_S A s.heap H locs) (hns : ∀ q, A q → ∀ cell : Cell, s.heap[q]? = some cell → cell.vm.isStatics = false)
    {q qm : Nat} {cX : ClassId} {kX : Class} (hfX : s.vm.findClass cls = some cX) (hkX : s.vm.classes[cX]? = some kX) (hcell : H[q]? = some (freshCell cX kX)) (hnew : s.heap.size ≤ q)
    (hne : c.exceptionTable.isEmpty = true) (hsz : ls.size = c.maxLocals) (hlocks : meth.locks = false) (hd6 : decode cc pc = .ok (.invokespecial ic, 3)) (hd9 : decode cc (pc + 3) = .ok (.athrow, 1))
    (hRf : names.length + 3 < R.frames) (hRl : 2 * (F0 m pc ls rest).monitorRoom + ((Value.ref q :: rest).map fun v => v.category).sum + (13 * (names.length + 1) + 42) ≤ R.locals) :
    W p l e R s m args below meth c H locs cells slots (vt_MQ below (vt_Q cls A) args s cells slots A) (F0 m pc ls (.ref qm :: .ref q :: .ref q :: rest)) := by
  intro T hT X
  have htr : e.platform.stackTraces = false := by rw [X.admits.platform]; exact hl
  obtain ⟨U, hst, hrun, hend, hW, hsame, ce, hce, K⟩ := X.ctorThrowS hexec htr (own := own) (cls := cls) (names := names) (ic := ic) hown hcls hnames h
    (fun x hx cell hc => hns _ (hS.2.2 x hx) cell hc) hfX hkX (by rw [hT]; exact hcell) hnew (msg := .ref qm) rfl (g := F0 m pc ls (.ref qm :: .ref q :: .ref q :: rest)) rfl hsz rfl rfl (rest := rest) rfl
    (by rw [hb]; exact hd6) (by rw [hb]; exact hd9) (covers_of_empty hne _) hRf hRl hlocks
  exact ⟨U, hst, q, hrun, hend, ⟨⟨ce, hce, K.vm, K.cls⟩, hsame.2.1, fun z h1 h2 => vt_same (t := ({ U with vm := s.vm } : State)) hsame hS.2.2 z h1 h2⟩, hW, locs, hsame, hS.2.2⟩
end VT5
/-! NoSuchElementException's own constructor calls its superclass's by another place of its pool (13) than the bundle of the library has it: the same road, with the first of the constructors told apart. -/
abbrev vs_NS : String := "java/util/NoSuchElementException"
abbrev vs_RT : String := "java/lang/RuntimeException"
def vs_b13 : ByteArray := ⟨#[0x2a, 0x2b, 0xb7, 0x00, 0x0d, 0xb1]⟩
theorem vs_b13_0 : decode vs_b13 0 = .ok (.aload_n 0, 1) := by decide +kernel
theorem vs_b13_1 : decode vs_b13 1 = .ok (.aload_n 1, 1) := by decide +kernel
theorem vs_b13_2 : decode vs_b13 2 = .ok (.invokespecial 13, 3) := by decide +kernel
theorem vs_b13_5 : decode vs_b13 5 = .ok (.return_, 1) := by decide +kernel
def vs_pins : List Cond := [.instantiable vs_NS 6, .selects vs_NS Bundle.tFill0 Bundle.tFill0, .selects vs_NS Bundle.tFill Bundle.tFill,
  .lays vs_NS Bundle.tN "cause" "Ljava/lang/Throwable;", .lays vs_NS Bundle.tN "stackTrace" Bundle.steD, .lays vs_NS Bundle.tN "suppressedExceptions" Bundle.listD, .lays vs_NS Bundle.tN "detailMessage" "Ljava/lang/String;",
  .isRef (.static Bundle.tN "UNASSIGNED_STACK" Bundle.steD), .isRef (.static Bundle.tN "SUPPRESSED_SENTINEL" Bundle.listD),
  .fieldLink Bundle.tN 198 Bundle.tN "backtrace" "Ljava/lang/Object;", .lays Bundle.tN Bundle.tN "backtrace" "Ljava/lang/Object;", .lays vs_NS Bundle.tN "backtrace" "Ljava/lang/Object;"]
def vs_ownN (own : String) (ic : Nat) : List Cond := .methodLink own ic (Bundle.initS vs_NS) :: (Bundle.throwableAtoms ++ (Bundle.throwableSAtoms ++ (Bundle.passSAtoms vs_NS vs_RT 13 vs_b13 ++ (Bundle.chainSAtoms vs_RT ["java/lang/Exception"] ++ vs_pins))))
section VT6
variable {p : Program} {l : Launch} {e : Env} {R : Room} {s : State} {m₀ : MethodId} {args : Array Value} {below : List Frame} {meth : Method} {c : Code} {Wt : State} {locs : List Loc} {cells slots : Nat}
set_option maxHeartbeats 1000000 in
theorem vt_ctorN (X : Stand p l e R s m₀ args below meth c Wt locs cells slots) (hexec : p.tables.exec = Jvm.exec) (htr : e.platform.stackTraces = false) {own : String} {ic : Nat} (hown : s.vm.findClass own = some m₀.cls)
    (h : ∀ w ∈ vs_ownN own ic, w.before args s = true) (hlocs : ∀ x ∈ locs, ∀ cell, s.heap[x.base]? = some cell → cell.vm.isStatics = false)
    {a : Addr} {cX : ClassId} {kX : Class} (hfX : s.vm.findClass vs_NS = some cX) (hkX : s.vm.classes[cX]? = some kX) (hcell : Wt.heap[a]? = some (freshCell cX kX)) (hnew : s.heap.size ≤ a) {msg : Value} (hmsg : msg.isRef = true)
    {g : JFrame} (hg : g.method = m₀) (hsize : g.locals.size = c.maxLocals) (hlocked : g.locked = none) (hentered : g.entered = []) {rest : List Value} (hstack : g.stack = msg :: .ref a :: .ref a :: rest)
    (hd6 : decode c.code g.pc = .ok (.invokespecial ic, 3)) (hd9 : decode c.code (g.pc + 3) = .ok (.athrow, 1)) (hout : ∀ x ∈ c.exceptionTable.toList, covers x (g.pc + 3) = false)
    (hRf : 5 < R.frames) (hRl : 2 * g.monitorRoom + ((Value.ref a :: rest).map fun v => v.category).sum + 81 ≤ R.locals) (hlocks : meth.locks = false) :
    ∃ U : State, Steps p.tables e below (Wt.setTop g) U ∧ U.status = .running ∧ Ended U below (.threw a) ∧ s.WarmedH U.vm ∧ s.sameButNew ({ U with vm := s.vm } : State) locs cells slots ∧ ∃ ce : Cell, U.heap[a]? = some ce ∧ ce.vm = .none ∧ s.vm.findClass vs_NS = some ce.cls := by
  have howns : e.platform.frameOwnsMonitors = true := by rw [X.admits.platform]
  have hfin : e.platform.finalization = false := by rw [X.admits.platform]
  have hpl : e.platform.magicAccessors = ({} : Platform).magicAccessors := by rw [X.admits.platform]
  have hk : ∀ w ∈ vs_pins, w.before args s = true := fun w hw => h w (List.mem_cons_of_mem _ (List.mem_append_right _ (List.mem_append_right _ (List.mem_append_right _ (List.mem_append_right _ hw)))))
  have hpin : ∀ {w : Cond} (i : Nat), vs_pins[i]? = some w → w.before args s = true := fun i hi => hk _ (List.mem_of_getElem? hi)
  -- the constructors, from the top of the classes down
  obtain ⟨T, Z0, L, -, Y⟩ := ThrowableC.of_atoms (args := args) howns hfin hpl (fun w hw => h w (List.mem_cons_of_mem _ (List.mem_append_left _ hw)))
  obtain ⟨Z, M, LZ, LM, hnZ⟩ := Init0T.ofS_atoms (args := args) hpl L Y (fun w hw => h w (List.mem_cons_of_mem _ (List.mem_append_right _ (List.mem_append_left _ hw))))
  have hpass : ∀ w ∈ Bundle.passSAtoms vs_NS vs_RT 13 vs_b13, w.before args s = true := fun w hw => h w (List.mem_cons_of_mem _ (List.mem_append_right _ (List.mem_append_right _ (List.mem_append_left _ hw))))
  obtain ⟨P1, L1, hP1m, hP1s⟩ := PassC.ofS_atoms (args := args) (s := s) hpl (X := vs_NS) (Y := vs_RT) (by decide) (by decide) vs_b13_0 vs_b13_1 vs_b13_2 vs_b13_5 hpass
  obtain ⟨P2, Ps, hlen, L2, hL2, hP2m, hlink2, hlink⟩ := Bundle.chainS (args := args) hpl hnZ ["java/lang/Exception"] vs_RT (by decide) (by decide) (fun w hw => h w (List.mem_cons_of_mem _ (List.mem_append_right _ (List.mem_append_right _ (List.mem_append_right _ (List.mem_append_left _ hw))))))
  have hup : P1.sup = P2.m := Option.some.inj (hP1s.symm.trans hP2m)
  have hfound : s.vm.findClass vs_NS = some P1.m.cls := findClass_of_methodNamed hP1m
  cases Option.some.inj (hfX.symm.trans hfound)
  obtain ⟨c1, kX', hc1, hkc, hord, -, -, hn6⟩ := Cond.instantiable_spec (hpin (w := .instantiable vs_NS 6) 0 rfl)
  cases Option.some.inj (hc1.symm.trans hfound)
  cases Option.some.inj (hkX.symm.trans hkc)
  have hsel0 : selectMethod e.platform s.vm P1.m.cls T.fill0 = .method T.fill0 := by
    obtain ⟨c2, r2, m2, q1, q2, q3, q4, -⟩ := Cond.selects_spec (hpin (w := .selects vs_NS Bundle.tFill0 Bundle.tFill0) 1 rfl)
    cases Option.some.inj (q1.symm.trans hfound)
    cases Option.some.inj (q2.symm.trans (State.methodFound?_of_named Y.fill0 (by decide)))
    cases Option.some.inj (q3.symm.trans Y.fill0)
    rw [Launch.admits_selectMethod X.admits]; exact q4
  have hselF : selectMethod e.platform s.vm P1.m.cls T.fill = .method T.fill := by
    obtain ⟨c2, r2, m2, q1, q2, q3, q4, -⟩ := Cond.selects_spec (hpin (w := .selects vs_NS Bundle.tFill Bundle.tFill) 2 rfl)
    cases Option.some.inj (q1.symm.trans hfound)
    cases Option.some.inj (q2.symm.trans (State.methodFound?_of_named Y.fill (by decide)))
    cases Option.some.inj (q3.symm.trans Y.fill)
    rw [Launch.admits_selectMethod X.admits]; exact q4
  -- Throwable's statics
  obtain ⟨cellS0, hcS0, hiss⟩ := Y.statics
  obtain ⟨u0, hu0⟩ := Cond.staticRefV Y.unassigned L.unassignedStatic L.statics hcS0 hiss (hpin (w := .isRef (.static Bundle.tN "UNASSIGNED_STACK" Bundle.steD)) 7 rfl)
  obtain ⟨sen, hsen⟩ := Cond.staticRefV Y.sentinel L.sentinelStatic L.statics hcS0 hiss (hpin (w := .isRef (.static Bundle.tN "SUPPRESSED_SENTINEL" Bundle.listD)) 8 rfl)
  obtain ⟨ci198, i198, fB, hk198, hg198, ha198, hsB, -, hnB, htB, hffB⟩ := Cond.ownField (t := .object "java/lang/Object") Y.found L.cls (by decide +kernel) (hpin (w := .fieldLink Bundle.tN 198 Bundle.tN "backtrace" "Ljava/lang/Object;") 9 rfl) (hpin (w := .lays Bundle.tN Bundle.tN "backtrace" "Ljava/lang/Object;") 10 rfl) e.platform hpl
  obtain ⟨cellS, hcS', heS, -, hkeep⟩ := X.same.2.2.2.2.2 T.aS cellS0 hcS0
  have hcellS : Wt.heap[T.aS]? = some cellS := hcS'
  have hfree : ∀ i, (⟨T.aS, i⟩ : Loc) ∉ locs := fun i hmem => by
    have h9 := hlocs _ hmem cellS0 hcS0
    rw [hiss] at h9; cases h9
  have hknownS : cellS.vm ≠ .unknown := by
    rw [heS]; intro hu
    rw [show cellS0.vm = .unknown from hu] at hiss
    cases hiss
  have hneS : T.aS ≠ a := Nat.ne_of_lt (Nat.lt_of_lt_of_le (Array.getElem?_eq_some_iff.mp hcS0).1 hnew)
  -- where the exception's own fields lie
  obtain ⟨iM, hffM⟩ := Y.msg
  obtain ⟨tyC, dC, hdC, hdnC⟩ := Cond.laysAt hfound hkc Y.cause (hpin (w := .lays vs_NS Bundle.tN "cause" "Ljava/lang/Throwable;") 3 rfl)
  obtain ⟨tyS, dS, hdS, hdnS⟩ := Cond.laysAt hfound hkc Y.stack (hpin (w := .lays vs_NS Bundle.tN "stackTrace" Bundle.steD) 4 rfl)
  obtain ⟨tyP, dP, hdP, hdnP⟩ := Cond.laysAt hfound hkc Y.supp (hpin (w := .lays vs_NS Bundle.tN "suppressedExceptions" Bundle.listD) 5 rfl)
  obtain ⟨tyM, dM, hdM, hdnM⟩ := Cond.laysAt hfound hkc hffM (hpin (w := .lays vs_NS Bundle.tN "detailMessage" "Ljava/lang/String;") 6 rfl)
  obtain ⟨tyB, dB, hdB, hdnB⟩ := Cond.laysAt hfound hkc hffB (hpin (w := .lays vs_NS Bundle.tN "backtrace" "Ljava/lang/Object;") 11 rfl)
  have bC := Cond.laysApart hdB hdC hdnB hdnC (by rw [hnB, Y.causeName]; decide)
  have bS := Cond.laysApart hdB hdS hdnB hdnS (by rw [hnB, Y.stackName]; decide)
  have bP := Cond.laysApart hdB hdP hdnB hdnP (by rw [hnB, Y.suppName]; decide)
  have hskip : SkipFacts T e.platform s (fun u => u) u0 ((preparedCellV T.toThrowableT (freshCell P1.m.cls kX) a u0 sen).withEntry Wt.cur) :=
    ⟨{ ci198 := ci198, i198 := i198, fBack := fB }, ⟨hk198, hg198, ha198, hsB⟩, by
      have h9 := fresh_default (c := P1.m.cls) tyB
      rw [htB] at h9
      simpa [preparedCellV, Cell.setSlot, Cell.withEntry, Array.getElem?_setIfInBounds, bC, bS, bP, bC.symm, bS.symm, bP.symm, defaultValue] using h9, fun _ _ => rfl⟩
  -- into the constructor, through it, out by the throw
  obtain ⟨tm, methC, cdC, kC, vm₁, hnC, -, -, -, -, -, -, -, hW₁, st1⟩ := Steps.initColdS (tb := p.tables) (e := e) (below := below) (s := s) (U := Wt) X.here hexec X.warmed hpl hown (t := Bundle.initS vs_NS) rfl rfl (by decide)
    (h _ List.mem_cons_self) (hpass (.instanceMethod (Bundle.initS vs_NS)) (List.mem_of_getElem? (i := 0) rfl)) (bytes := vs_b13) (maxL := 2) (hpass (.code (Bundle.initS vs_NS) vs_b13 2 none) (List.mem_of_getElem? (i := 1) rfl))
    (f := g) hg (a := a) (msg := msg) (rest := .ref a :: rest) hstack hd6
  cases Option.some.inj (hnC.symm.trans hP1m)
  have X₁ := X.noted hW₁
  obtain ⟨vm₂, X₂, st2⟩ := X₁.ctorMessageOffV hexec (g := { g with stack := .ref a :: rest }) hg hsize T L Z LZ M LM (P1 :: P2 :: Ps)
    (fun P hP => by
      rcases List.mem_cons.mp hP with rfl | hP
      · exact L1
      · rcases List.mem_cons.mp hP with rfl | hP
        · exact L2
        · exact hL2 P hP) ⟨hup, hlink2, hlink⟩ (u0 := u0) (sen := sen) (self := a) hmsg (cell := freshCell P1.m.cls kX) (cellS := cellS)
    hcell (fun _ => by simp) (by simp) rfl rfl hsel0 hselF hcellS hneS hknownS (by rw [hkeep _ (hfree _)]; exact hu0) (by rw [hkeep _ (hfree _)]; exact hsen)
    (Takes.of_laid hkc hord tyC (by rw [Y.causeType]; rfl)) (Takes.of_laid hkc hord tyS (by rw [Y.stackType]; exact fits_refV_array _ u0)) (Takes.of_laid hkc hord tyP (by rw [Y.suppType]; exact fits_refV_object _ sen))
    (Takes.of_laid hkc hord tyM (by rw [Y.msgType]; exact fits_refV_object _ ⟨msg, hmsg⟩)) Y.objLocals hskip htr [] hd6
    (by have h9 : Ps.length = 1 := hlen
        simp only [List.length_cons, h9]; omega) (by have h9 : Ps.length = 1 := hlen
                                                     simp only [List.length_cons, h9]; exact hRl)
  obtain ⟨hwalk, hrun, hended, hWU, hsame⟩ := X₂.athrowLeaves hexec (g := { g with stack := .ref a :: rest, pc := g.pc + 3 }) hg hlocked hentered hout (a := a) (rest := rest) rfl hd9 hlocks
  have hlt : a < ((Wt.setVm vm₁).setVm vm₂).heap.size := (Array.getElem?_eq_some_iff.mp hcell).1
  have hU := heapAt_setCell_self (s := (Wt.setVm vm₁).setVm vm₂) (plainBareV T.toThrowableT (freshCell P1.m.cls kX) a u0 sen msg) hlt
  refine ⟨_, st1 _ (fun acts => ?_), hrun, hended, hWU, hsame.weaken (fun y hy hlt' => ?_) (Nat.le_refl _) (Nat.le_refl _), _, hU, rfl, hfound⟩
  · rw [doInvoke_state]
    exact st2 _ hwalk
  · rcases List.mem_append.mp hy with h1 | h1
    · exact h1
    · exfalso
      have hb : y.base = a := by
        simp only [List.mem_cons, List.not_mem_nil, or_false] at h1
        rcases h1 with rfl | rfl | rfl | rfl | rfl <;> rfl
      rw [hb] at hlt'
      exact Nat.not_lt.mpr hnew hlt'
theorem vt_throwN {H : Heap} {cc : ByteArray} {pc : Nat} {ls : Array Slot} {rest : List Value} {A : Nat → Prop} (hexec : p.tables.exec = Jvm.exec) (hb : c.code = cc) (hl : l.stackTraces = false) {own : String} {ic : Nat} (hown : s.vm.findClass own = some m₀.cls)
    (h : ∀ w ∈ vs_ownN own ic, w.before args s = true) (hS : va_S A s.heap H locs) (hns : ∀ q, A q → ∀ cell : Cell, s.heap[q]? = some cell → cell.vm.isStatics = false)
    {q qm : Nat} {cX : ClassId} {kX : Class} (hfX : s.vm.findClass vs_NS = some cX) (hkX : s.vm.classes[cX]? = some kX) (hcell : H[q]? = some (freshCell cX kX)) (hnew : s.heap.size ≤ q)
    (hne : c.exceptionTable.isEmpty = true) (hsz : ls.size = c.maxLocals) (hlocks : meth.locks = false) (hd6 : decode cc pc = .ok (.invokespecial ic, 3)) (hd9 : decode cc (pc + 3) = .ok (.athrow, 1))
    (hRf : 5 < R.frames) (hRl : 2 * (F0 m₀ pc ls rest).monitorRoom + ((Value.ref q :: rest).map fun v => v.category).sum + 81 ≤ R.locals) :
    W p l e R s m₀ args below meth c H locs cells slots (vt_MQ below (vt_Q vs_NS A) args s cells slots A) (F0 m₀ pc ls (.ref qm :: .ref q :: .ref q :: rest)) := by
  intro T hT X
  have htr : e.platform.stackTraces = false := by rw [X.admits.platform]; exact hl
  obtain ⟨U, hst, hrun, hend, hW, hsame, ce, hce, k1, k2⟩ := vt_ctorN X hexec htr (own := own) (ic := ic) hown h
    (fun x hx cell hc => hns _ (hS.2.2 x hx) cell hc) hfX hkX (by rw [hT]; exact hcell) hnew (msg := .ref qm) rfl (g := F0 m₀ pc ls (.ref qm :: .ref q :: .ref q :: rest)) rfl hsz rfl rfl (rest := rest) rfl
    (by rw [hb]; exact hd6) (by rw [hb]; exact hd9) (covers_of_empty hne _) hRf hRl hlocks
  exact ⟨U, hst, q, hrun, hend, ⟨⟨ce, hce, k1, k2⟩, hsame.2.1, fun z h1 h2 => vt_same (t := ({ U with vm := s.vm } : State)) hsame hS.2.2 z h1 h2⟩, hW, locs, hsame, hS.2.2⟩
end VT6
/-- of any list of words: those of the tables, and the four on the statics -/
theorem vt_atomsL {L0 : List Cond} (hd : L0.all (fun w => w.onTables || decide (w ∈ vt_four)) = true) {A : Nat → Prop} {args : Array Value} {U : State} (hJ : vt_J (L0.filter (fun w => w.onTables)) U) (hZ : vt_ZZ A U U.heap) : ∀ w ∈ L0, w.before args U = true := by
  intro w hw
  by_cases ho : w.onTables = true
  · exact va_Nw.use ho (hJ w (List.mem_filter.mpr ⟨hw, ho⟩))
  · have h1 := List.all_eq_true.mp hd w hw
    simp only [Bool.not_eq_true] at ho
    rw [ho, Bool.false_or, decide_eq_true_eq] at h1
    simp only [vt_four, List.mem_cons, List.not_mem_nil, or_false] at h1
    rcases h1 with rfl | rfl | rfl | rfl
    · exact hZ.1.lays
    · exact hZ.2.lays
    · exact hZ.1.isRef
    · exact hZ.2.isRef
