/-! methods that return or throw: one contract for both, with what the heap holds behind a throw -/
def vo_T {S : Type} (cs : List String) (post : S → Prop) (B : S → State → Prop) (A : Nat → Prop) : Array Value → State → Addr → State → Prop := fun _ st x t => (∃ cell : Cell, t.heap[x]? = some cell ∧ cell.vm = .none ∧ ∃ cls, cls ∈ cs ∧ st.vm.findClass cls = some cell.cls) ∧ (∃ u : S, post u ∧ B u t) ∧ va_F A st t
def vo_Met (l : Launch) (y : MethodName) (ws : List Cond) (rm : Room) (Pc : Array Value → State → Prop) (Qc : Array Value → State → Outcome → State → Prop) (Qx : Array Value → State → Addr → State → Prop) (mc ms : Nat) (free : Addr → Prop) : Prop :=
  MetFree l y (headSpec ws rm) Pc (fun _ _ _ _ _ => True) (fun a st o t => (Qc a st o t ∧ ∃ L, FrameEnd st o t L mc ms ∧ ∀ q ∈ L, free q.base) ∨ ∃ x, o = .threw x ∧ Qx a st x t ∧ st.WarmedH t.vm ∧ ∃ L, st.sameButNew ({ t with vm := st.vm } : State) L mc ms ∧ ∀ q ∈ L, free q.base)
def vo_MQ (below : List Frame) (Qc : Array Value → State → Outcome → State → Prop) (Qx : Array Value → State → Addr → State → Prop) (a : Array Value) (s : State) (mc ms : Nat) (free : Addr → Prop) : State → Prop := fun t => MQ below Qc a s mc ms free t ∨ vt_MQ below Qx a s mc ms free t
section VO1
variable {l : Launch}
theorem vo_ofW {y : MethodName} {ws ws' : List Cond} {rm : Room} {Pc : Array Value → State → Prop} {Qc : Array Value → State → Outcome → State → Prop} {Qx : Array Value → State → Addr → State → Prop} {mc ms : Nat} {free : Addr → Prop} {cc : ByteArray} {maxL : Nat} {ret : Option FieldType}
    (hy : plainName y.cls = true) (hw : ws = Cond.code y cc maxL ret :: ws')
    (body : ∀ p e s m args below meth c s₁, BodyLoose p l y (headSpec ws rm) cc maxL ret e s m args below meth c s₁ → c.maxLocals = maxL → c.exceptionTable.isEmpty = true → Pc args s →
      W p l e (headSpec ws rm).room s m args below meth c s.heap [] 0 0 (vo_MQ below Qc Qx args s mc ms free) (entryFrame m args maxL)) : vo_Met l y ws rm Pc Qc Qx mc ms free := by
  refine MetFree.of_bodyS (code := cc) (maxLocals := maxL) (ret := ret) hy ?_ ?_
  · intro args s m h hn
    obtain ⟨meth, c, h1, h2, h3, h4, h5, h6, -, -⟩ := Cond.code_spec hn (atoms_spec (ws := ws) h _ (by rw [hw]; exact List.mem_cons_self))
    exact ⟨meth, c, h1, h2, h3, h4, h5, h6⟩
  · intro p e s m args below meth c s₁ B hml hP _
    have hh0 : s₁.heap = s.heap := by rw [B.state]; rfl
    have hne := B.noHandlers (atoms_spec (ws := ws) B.pre _ (by rw [hw]; exact List.mem_cons_self))
    obtain ⟨t, a1, hq⟩ := body p e s m args below meth c s₁ B hml hne hP s₁ hh0 (Stand.of_body B)
    rcases hq with ⟨o, b1, b2, b3⟩ | ⟨x, b1, b2, b3⟩
    · exact ⟨t, o, a1, b1, b2, Or.inl ⟨b3.1, b3.2⟩⟩
    · exact ⟨t, .threw x, a1, b1, b2, Or.inr ⟨x, rfl, b3⟩⟩
end VO1
section VO2
variable {p : Program} {l : Launch} {e : Env} {R : Room} {s : State} {m : MethodId} {args : Array Value} {below : List Frame} {meth : Method} {c : Code} {H : Heap} {locs : List Loc} {cells slots : Nat} {Q : State → Prop}
variable {Qc : Array Value → State → Outcome → State → Prop} {Qx : Array Value → State → Addr → State → Prop} {free : Addr → Prop} {mc ms : Nat} {g : JFrame}
theorem vo_ret (h : W p l e R s m args below meth c H locs cells slots (MQ below Qc args s mc ms free) g) : W p l e R s m args below meth c H locs cells slots (vo_MQ below Qc Qx args s mc ms free) g := fun T hT X => by
  obtain ⟨t, a, b⟩ := h T hT X
  exact ⟨t, a, Or.inl b⟩
theorem vo_thr (h : W p l e R s m args below meth c H locs cells slots (vt_MQ below Qx args s mc ms free) g) : W p l e R s m args below meth c H locs cells slots (vo_MQ below Qc Qx args s mc ms free) g := fun T hT X => by
  obtain ⟨t, a, b⟩ := h T hT X
  exact ⟨t, a, Or.inr b⟩
variable {y : MethodName} {len Wd : Nat} {ws : List Cond} {rm : Room} {Pc : Array Value → State → Prop} {bytes : ByteArray} {maxL : Nat} {ret : Option FieldType}
def vo_Back (l : Launch) (R : Room) (p : Program) (e : Env) (below : List Frame) (s : State) (sargs : Array Value) (y : MethodName) (len W : Nat) (Pre : Pt → Array Value → Prop) (PR : Pt → Array Value → Option Value → Pt → Prop) (PX : Pt → Array Value → Addr → Pt → Prop) : Prop :=
  ∀ (m : MethodId) (meth : Method) (c : Code) (A : Pt) (g : JFrame) (ig : Instr) (mk : MethodId) (a : Array Value),
    Stand p l e R s m sargs below meth c A.U A.locs A.cells A.slots → g.method = m → g.locals.size = c.maxLocals → decode c.code g.pc = .ok (ig, len) →
    2 * g.monitorRoom + (g.stack.map fun v => v.category).sum ≤ W → A.U.methodNamed? y = some mk → Pre A a →
    ∃ B : Pt, Stand p l e R s m sargs below meth c B.U B.locs B.cells B.slots ∧ ((∃ v : Option Value, PR A a v B ∧ Steps p.tables e below (doInvoke e (A.U.setTop g) [] mk a).1 (B.U.setTop { g with pc := g.pc + len, stack := v.toList ++ g.stack })) ∨
      ∃ x : Addr, PX A a x B ∧ Steps p.tables e below (doInvoke e (A.U.setTop g) [] mk a).1 ((B.U.setTop g).pushFrame (.throwing x)))
theorem vo_back (hM : vo_Met l y ws rm Pc Qc Qx mc ms free) (hblind : FrameBlind Pc) (hrc : rm.cells = mc) (hrs : rm.slots = ms)
    (hframes : rm.frames + 1 ≤ R.frames) (hlocals : Wd + (maxL + 11) + rm.locals ≤ R.locals)
    (hws : ∀ w ∈ ws, ∀ (a' : Array Value) (U : State), s.WarmedH U.vm → w.before a' U = true) (hcode : Cond.code y bytes maxL ret ∈ ws) (hinit : ∀ (a' : Array Value) (U : State), s.WarmedH U.vm → (Cond.initialized y.cls).before a' U = true) :
    vo_Back l R p e below s args y len Wd (PreOf R mc ms Pc) (PostOf Qc mc ms free) (vt_PostOf Qx mc ms free) := by
  intro m meth c A g ig mk a X hg hsize hdg hW hn hp
  obtain ⟨U, Ls, c0, s0⟩ := A
  obtain ⟨hp1, hp2, hp3⟩ := hp
  dsimp only [Pt.U, Pt.locs, Pt.cells, Pt.slots] at X hn hp1 hp2 hp3 ⊢
  subst hrc; subst hrs
  obtain ⟨methY, cY, hmY, hcY, -, hlY, -, -, -, -⟩ := Cond.code_spec hn (hws _ hcode a U X.warmed)
  obtain ⟨kY, hkY, -⟩ := className_of_methodNamed hn
  have hinitY : kY.init = .initialized := Cond.initialized_spec (findClass_of_methodNamed hn) hkY (hinit a U X.warmed)
  have h : At U g.method c below := by rw [hg]; exact X.here
  have happ : (headSpec ws rm).appliesLoose y e.platform (U.calling g mk a) = true :=
    Spec.appliesLoose_calling (g := g) h hdg hn hkY hinitY
      (X.room_calling (g := g) (R' := rm) hsize hmY hcY hframes (by rw [hlY]; omega) hp1 hp2) (atoms_intro fun w hw => hws w hw _ _ X.warmed)
  obtain ⟨mid, hmid⟩ := h.above
  have hfr : (U.setTop g).frames = (.java g :: mid) ++ below := by rw [State.frames_setTop' g h.top, hmid]; rfl
  obtain ⟨o, s₂, hsteps, -, hend, hq⟩ := Steps.callFree hM p X.admits X.cas X.clock (acts := []) hfr happ (hblind _ _ _ _ hp3) trivial
  rw [State.frames_setTop' g h.top, X.tail] at hend
  rcases hq with ⟨hq, L, ⟨⟨v, rfl⟩, hWs, hsame⟩, hL⟩ | ⟨x, rfl, hq, hWs, L, hsame, hL⟩
  · obtain ⟨T', X', -, -, ht⟩ := X.outOf (g := g) (mk := mk) (a := a) hg hdg hend hWs hsame
    have e1 : T'.heap = s₂.heap := by rw [ht]; simp [State.setTop, State.modifyTopJava, State.setFrames]
    have e2 : T'.vm = s₂.vm := by rw [ht]; simp [State.setTop, State.modifyTopJava, State.setFrames]
    refine ⟨⟨T', Ls ++ L, c0 + rm.cells, s0 + rm.slots⟩, X', Or.inl ⟨v, ⟨g, mk, s₂, L, e1, e2, hq, rfl, hL, rfl, rfl⟩, ?_⟩⟩
    show Steps p.tables e below _ (T'.setTop { g with pc := g.pc + len, stack := v.toList ++ g.stack })
    rw [← ht]
    exact hsteps
  · obtain ⟨T', X', -, -, ht⟩ := X.outOfThrown (g := g) (mk := mk) (a := a) hg hend hWs hsame
    refine ⟨⟨T', Ls ++ L, c0 + rm.cells, s0 + rm.slots⟩, X', Or.inr ⟨x, ⟨g, mk, s₂, L, ?_, ?_, hq, rfl, hL, rfl, rfl⟩, ?_⟩⟩
    · rw [ht]; exact (Stand.throwing_heap T' g x).symm
    · rw [ht]; exact (Stand.throwing_vm T' g x).symm
    · show Steps p.tables e below _ ((T'.setTop g).pushFrame (.throwing x))
      rw [← ht]
      exact hsteps
end VO2
