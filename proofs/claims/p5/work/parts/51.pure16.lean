/-! calls of methods that return or throw -/
section VO3
variable {p : Program} {l : Launch} {e : Env} {R : Room} {s : State} {m : MethodId} {args : Array Value} {below : List Frame} {meth : Method} {c : Code} {H : Heap} {locs : List Loc} {cells slots : Nat} {Q : State → Prop}
variable {y : MethodName} {bytes cc : ByteArray} {maxL nL mc ms n index : Nat} {ret : Option FieldType} {ws : List Cond} {rm : Room} {Pc : Array Value → State → Prop} {Qc : Array Value → State → Outcome → State → Prop} {Qx : Array Value → State → Addr → State → Prop} {free : Addr → Prop} {Ts : List Cond} {own C : String} {b : Addr} {As rest : List Value} {g : JFrame}
def vo_Run (p : Program) (l : Launch) (e : Env) (R : Room) (s : State) (m : MethodId) (args : Array Value) (below : List Frame) (meth : Method) (c : Code) (H : Heap) (locs : List Loc) (cells slots mc ms : Nat) (g : JFrame) (rest : List Value) (Qa : State → Outcome → State → Prop) (Qb : State → Addr → State → Prop) (free : Addr → Prop) : Prop :=
  ∀ T : State, T.heap = H → Stand p l e R s m args below meth c T locs cells slots → ∃ (st₀ t T' : State) (L : List Loc), st₀.heap = H ∧ s.vm.Alike st₀.vm ∧ Stand p l e R s m args below meth c T' (locs ++ L) (cells + mc) (slots + ms) ∧ (∀ q ∈ L, free q.base) ∧ T'.heap = t.heap ∧ T'.vm = t.vm ∧
    ((∃ v : Option Value, Qa st₀ (.returned v) t ∧ ∀ target, Steps p.tables e below (T'.setTop { g with pc := g.pc + 3, stack := v.toList ++ rest }) target → Steps p.tables e below (T.setTop g) target) ∨
      ∃ x : Addr, Qb st₀ x t ∧ ∀ target, Steps p.tables e below ((T'.setTop { g with stack := rest }).pushFrame (.throwing x)) target → Steps p.tables e below (T.setTop g) target)
theorem vo_callBack (cb : CallB R s args own index y bytes maxL ret ws rm mc ms n) (hM : vo_Met l y ws rm Pc Qc Qx mc ms free) (hbl : FrameBlind Pc) : vo_Back l R p e below s args y 3 8 (PreOf R mc ms Pc) (PostOf Qc mc ms free) (vt_PostOf Qx mc ms free) := by
  obtain ⟨hrc, hrs, hfr, hlo, hws, hcw, -, hini, -⟩ := cb
  exact vo_back (bytes := bytes) (maxL := maxL) (ret := ret) hM hbl hrc hrs hfr hlo hws hcw (fun a' U hW => word_at hW (Or.inl (by first | rfl | simp [Cond.onTables, Cond.keeps, Cond.steady])) hini)
theorem vo_runV (S : CallFix p m c cc nL s args Ts own) (hM : vo_Met l y ws rm Pc Qc Qx mc ms free) (cw : CallW R s args own C index y bytes maxL ret ws rm mc ms n) (hp : PreV s H C b Pc As)
    (hg : g.method = m) (hn : As.length = n) (hsize : g.locals.size = nL) (hstack : g.stack = As.reverse ++ .ref b :: rest) (hW : 2 * g.monitorRoom + (rest.map fun v => v.category).sum ≤ 8) (hdg : decode cc g.pc = .ok (.invokevirtual index, 3)) (hf : cells + mc ≤ R.cells ∧ slots + ms ≤ R.slots) :
    vo_Run p l e R s m args below meth c H locs cells slots mc ms g rest (Qc (Value.ref b :: As).toArray) (Qx (Value.ref b :: As).toArray) free := by
  have hK : vo_Back l R p e below s args y 3 8 (PreOf R mc ms Pc) (PostOf Qc mc ms free) (vt_PostOf Qx mc ms free) := vo_callBack cw.1 hM hp.1
  obtain ⟨⟨-, -, -, -, -, -, hcode, -, hy, hlen, hlink⟩, hinst, hsel⟩ := cw
  obtain ⟨hexec, hb, hml, hown, -⟩ := S
  obtain ⟨-, ⟨cellB, hcB, hobj, hcls⟩, hPc⟩ := hp
  intro T hT X
  obtain ⟨mk, methM, hnamed, hmethM, hstM, habM⟩ := Cond.instanceMethod_spec hinst
  obtain ⟨methM', cM, hmethM', -, -, -, -, -, -, hsigM⟩ := Cond.code_spec hnamed hcode
  cases hmethM.symm.trans hmethM'
  obtain ⟨c2, r2, m2, q1, q2, q3, q4, kP, hkP, hkPi⟩ := Cond.selects_spec hsel
  cases hcls.symm.trans q1
  cases (State.methodFound?_of_named hnamed hy).symm.trans q2
  cases hnamed.symm.trans q3
  have hselP : selectMethod e.platform s.vm cellB.cls mk = .method mk := by rw [Launch.admits_selectMethod X.admits]; exact q4
  obtain ⟨vm₁, X₁, hstep₁⟩ := X.invokevirtual hexec hown hlink hnamed hmethM hstM hkP hkPi hy (a := b) (cell := cellB) (by rw [hT]; exact hcB)
    (fun z h => by rw [h] at hobj; cases hobj) hselP hmethM habM hkP hkPi (g := g) hg (argsL := As) (rest := rest) (hn.trans (hlen _ hsigM)) hstack (by rw [hb]; exact hdg)
  obtain ⟨⟨U', l2, c2, s2⟩, X', hh⟩ := hK m meth c ⟨T.setVm vm₁, locs, cells, slots⟩ { g with stack := rest } (.invokevirtual index) mk (Value.ref b :: As).toArray X₁ hg (hsize.trans hml.symm) (by rw [hb]; exact hdg) hW (X₁.named hnamed) ⟨hf.1, hf.2, hPc (T.setVm vm₁) hT X₁.warmed⟩
  rcases hh with ⟨v, ⟨g', mk', t, L, e1, e2, hq, h1, hL, h2, h3⟩, hsteps⟩ | ⟨x, ⟨g', mk', t, L, e1, e2, hq, h1, hL, h2, h3⟩, hsteps⟩
  · dsimp only [Pt.U, Pt.locs, Pt.cells, Pt.slots] at X' e1 e2 h1 h2 h3 hsteps
    subst h1; subst h2; subst h3
    exact ⟨(T.setVm vm₁).calling g' mk' (Value.ref b :: As).toArray, t, U', L, hT, X₁.warmed.alike, X', hL, e1, e2, Or.inl ⟨v, hq, fun target h => hstep₁ _ fun acts => by rw [doInvoke_state]; exact hsteps.trans h⟩⟩
  · dsimp only [Pt.U, Pt.locs, Pt.cells, Pt.slots] at X' e1 e2 h1 h2 h3 hsteps
    subst h1; subst h2; subst h3
    exact ⟨(T.setVm vm₁).calling g' mk' (Value.ref b :: As).toArray, t, U', L, hT, X₁.warmed.alike, X', hL, e1, e2, Or.inr ⟨x, hq, fun target h => hstep₁ _ fun acts => by rw [doInvoke_state]; exact hsteps.trans h⟩⟩
theorem vo_runS (S : CallFix p m c cc nL s args Ts own) (hM : vo_Met l y ws rm Pc Qc Qx mc ms free) (cw : CallB R s args own index y bytes maxL ret ws rm mc ms n ∧ (Cond.static y).before args s = true) (hp : PreS s H Pc As)
    (hg : g.method = m) (hn : As.length = n) (hsize : g.locals.size = nL) (hstack : g.stack = As.reverse ++ rest) (hW : 2 * g.monitorRoom + (rest.map fun v => v.category).sum ≤ 8) (hdg : decode cc g.pc = .ok (.invokestatic index, 3)) (hf : cells + mc ≤ R.cells ∧ slots + ms ≤ R.slots) :
    vo_Run p l e R s m args below meth c H locs cells slots mc ms g rest (Qc As.toArray) (Qx As.toArray) free := by
  have hK : vo_Back l R p e below s args y 3 8 (PreOf R mc ms Pc) (PostOf Qc mc ms free) (vt_PostOf Qx mc ms free) := vo_callBack cw.1 hM hp.1
  obtain ⟨⟨-, -, -, -, -, -, hcode, hinit, hy, hlen, hlink⟩, hstat⟩ := cw
  obtain ⟨hexec, hb, hml, hown, -⟩ := S
  intro T hT X
  obtain ⟨mk, hnamed⟩ := Cond.code_named hcode
  obtain ⟨methM, cM, hmethM, -, -, -, -, -, -, hsigM⟩ := Cond.code_spec hnamed hcode
  have hstatic : methM.isStatic = true := Cond.static_spec hnamed hmethM hstat
  obtain ⟨kP, hkP, -⟩ := className_of_methodNamed hnamed
  have hinitP : kP.init = .initialized := Cond.initialized_spec (findClass_of_methodNamed hnamed) hkP hinit
  obtain ⟨vm₁, X₁, hstep₁⟩ := X.invokestatic hexec hown hlink hnamed hmethM hstatic hkP hinitP hy (g := g) hg (argsL := As) (rest := rest) (hn.trans (hlen _ hsigM)) hstack (by rw [hb]; exact hdg)
  obtain ⟨⟨U', l2, c2, s2⟩, X', hh⟩ := hK m meth c ⟨T.setVm vm₁, locs, cells, slots⟩ { g with stack := rest } (.invokestatic index) mk As.toArray X₁ hg (hsize.trans hml.symm) (by rw [hb]; exact hdg) hW (X₁.named hnamed) ⟨hf.1, hf.2, hp.2 (T.setVm vm₁) hT X₁.warmed⟩
  rcases hh with ⟨v, ⟨g', mk', t, L, e1, e2, hq, h1, hL, h2, h3⟩, hsteps⟩ | ⟨x, ⟨g', mk', t, L, e1, e2, hq, h1, hL, h2, h3⟩, hsteps⟩
  · dsimp only [Pt.U, Pt.locs, Pt.cells, Pt.slots] at X' e1 e2 h1 h2 h3 hsteps
    subst h1; subst h2; subst h3
    exact ⟨(T.setVm vm₁).calling g' mk' As.toArray, t, U', L, hT, X₁.warmed.alike, X', hL, e1, e2, Or.inl ⟨v, hq, fun target h => hstep₁ _ fun acts => by rw [doInvoke_state]; exact hsteps.trans h⟩⟩
  · dsimp only [Pt.U, Pt.locs, Pt.cells, Pt.slots] at X' e1 e2 h1 h2 h3 hsteps
    subst h1; subst h2; subst h3
    exact ⟨(T.setVm vm₁).calling g' mk' As.toArray, t, U', L, hT, X₁.warmed.alike, X', hL, e1, e2, Or.inr ⟨x, hq, fun target h => hstep₁ _ fun acts => by rw [doInvoke_state]; exact hsteps.trans h⟩⟩
end VO3
section VO4
variable {p : Program} {l : Launch} {e : Env} {R : Room} {s : State} {m : MethodId} {args : Array Value} {below : List Frame} {meth : Method} {c : Code} {H : Heap} {locs : List Loc} {cells slots : Nat} {Q : State → Prop}
variable {pc : Nat} {ls : Array Slot} {rest st0 : List Value} {ar : Array Value} {A : Nat → Prop} {H0 : Heap} {mc ms : Nat} {D : va_G} {ws wc wr : va_W} {cc : ByteArray} {cs : List String}
/-- what is asked behind a throw -/
def vo_K (p : Program) (l : Launch) (e : Env) (R : Room) (s : State) (m : MethodId) (args : Array Value) (below : List Frame) (meth : Method) (c : Code) (Q : State → Prop) (cells slots : Nat) (A : Nat → Prop) (H0 : Heap) (D : va_G) (g : JFrame) (cs : List String) (S : Type) (post : S → Prop) (wn : S → va_W) : Prop :=
  ∀ (x : Addr) (T' : State) (locs1 : List Loc), Stand p l e R s m args below meth c T' locs1 cells slots → (∃ cell : Cell, T'.heap[x]? = some cell ∧ cell.vm = .none ∧ ∃ cls, cls ∈ cs ∧ s.vm.findClass cls = some cell.cls) →
    (∃ u : S, post u ∧ va_P D cL (wn u) T'.heap ∧ va_D A (wn u)) → va_S A H0 T'.heap locs1 → ∃ t2, Steps p.tables e below ((T'.setTop g).pushFrame (.throwing x)) t2 ∧ Q t2
theorem vo_mvi {S : Type} {post : Int32 → S → Prop} {postx : S → Prop} {B : S → State → Prop} (hr : vo_Run p l e R s m args below meth c H locs cells slots mc ms (F0 m pc ls st0) rest (va_Qi post B (va_A wc H.size) ar) (vo_T cs postx B (va_A wc H.size) ar) (va_A wc H.size))
    (hP : va_P D cL ws H) (hD : va_D A ws) (hS : va_S A H0 H locs) (hA : ∀ q, H0.size ≤ q → A q) (isC isR : List Nat) (hC : isC.map (fun i => ws[i]?) = wc.map some) (hR : isR.map (fun i => ws[i]?) = wr.map some) (hn : va_nd isR = true) (hdis : ∀ i ∈ isR, i ∉ isC)
    {wn : S → va_W} (hB : ∀ u t, B u t → post_ D (va_A wc H.size) (wn u) t)
    (kx : vo_K p l e R s m args below meth c Q (cells + mc) (slots + ms) A H0 D { F0 m pc ls st0 with stack := rest } cs S postx (fun u => wr ++ wn u))
    (kk : ∀ (r : Int32) (u : S) (H1 : Heap) (locs1 : List Loc), post r u → va_P D cL (wr ++ wn u) H1 → va_D A (wr ++ wn u) → va_S A H0 H1 locs1 → W p l e R s m args below meth c H1 locs1 (cells + mc) (slots + ms) Q (F0 m (pc + 3) ls (.int r :: rest))) : W p l e R s m args below meth c H locs cells slots Q (F0 m pc ls st0) := by
  have hFc := va_free (wc := wc) hD hS hA isC hC
  intro T hT X
  obtain ⟨st₀, t, T', L, h0, hal, X', hL, e1, e2, hq | hq⟩ := hr T hT X
  · obtain ⟨v, ⟨⟨r, u, hv, hp, hb⟩, hz, hk⟩, st⟩ := hq
    cases hv
    rw [h0] at hz hk
    have hk' : ∀ q : Nat, q < H.size → ¬ va_A wc H.size q → T'.heap[q]? = H[q]? := fun q h1 h2 => by rw [e1]; exact hk q h1 h2
    obtain ⟨hP1, hD1⟩ := hB u t hb
    rw [← e1] at hP1
    obtain ⟨hP', hD'⟩ := va_join (wr := wr) (w1 := wn u) hP hD isC isR hC hR hn hdis hk' hFc hP1 hD1
    obtain ⟨t2, a1, b1⟩ := kk r u T'.heap (locs ++ L) hp hP' hD' (vt_grow hS (fun q _ h => hFc q h) hFc hL (by rw [e1]; exact hz) hk') T' rfl X'
    exact ⟨t2, st t2 a1, b1⟩
  · obtain ⟨x, ⟨⟨cell, k1, k2, cls, k3, k4⟩, ⟨u, hp, hb⟩, hz, hk⟩, st⟩ := hq
    rw [h0] at hz hk
    have hk' : ∀ q : Nat, q < H.size → ¬ va_A wc H.size q → T'.heap[q]? = H[q]? := fun q h1 h2 => by rw [e1]; exact hk q h1 h2
    obtain ⟨hP1, hD1⟩ := hB u t hb
    rw [← e1] at hP1
    obtain ⟨hP', hD'⟩ := va_join (wr := wr) (w1 := wn u) hP hD isC isR hC hR hn hdis hk' hFc hP1 hD1
    obtain ⟨t2, a1, b1⟩ := kx x T' (locs ++ L) X' ⟨cell, by rw [e1]; exact k1, k2, cls, k3, by rw [← hal.findClass]; exact k4⟩ ⟨u, hp, hP', hD'⟩ (vt_grow hS (fun q _ h => hFc q h) hFc hL (by rw [e1]; exact hz) hk')
    exact ⟨t2, st t2 a1, b1⟩
theorem vo_mvv {S : Type} {post : S → Prop} {postx : S → Prop} {B : S → State → Prop} (hr : vo_Run p l e R s m args below meth c H locs cells slots mc ms (F0 m pc ls st0) rest (va_Qv post B (va_A wc H.size) ar) (vo_T cs postx B (va_A wc H.size) ar) (va_A wc H.size))
    (hP : va_P D cL ws H) (hD : va_D A ws) (hS : va_S A H0 H locs) (hA : ∀ q, H0.size ≤ q → A q) (isC isR : List Nat) (hC : isC.map (fun i => ws[i]?) = wc.map some) (hR : isR.map (fun i => ws[i]?) = wr.map some) (hn : va_nd isR = true) (hdis : ∀ i ∈ isR, i ∉ isC)
    {wn : S → va_W} (hB : ∀ u t, B u t → post_ D (va_A wc H.size) (wn u) t)
    (kx : vo_K p l e R s m args below meth c Q (cells + mc) (slots + ms) A H0 D { F0 m pc ls st0 with stack := rest } cs S postx (fun u => wr ++ wn u))
    (kk : ∀ (u : S) (H1 : Heap) (locs1 : List Loc), post u → va_P D cL (wr ++ wn u) H1 → va_D A (wr ++ wn u) → va_S A H0 H1 locs1 → W p l e R s m args below meth c H1 locs1 (cells + mc) (slots + ms) Q (F0 m (pc + 3) ls rest)) : W p l e R s m args below meth c H locs cells slots Q (F0 m pc ls st0) := by
  have hFc := va_free (wc := wc) hD hS hA isC hC
  intro T hT X
  obtain ⟨st₀, t, T', L, h0, hal, X', hL, e1, e2, hq | hq⟩ := hr T hT X
  · obtain ⟨v, ⟨⟨u, hv, hp, hb⟩, hz, hk⟩, st⟩ := hq
    cases hv
    rw [h0] at hz hk
    have hk' : ∀ q : Nat, q < H.size → ¬ va_A wc H.size q → T'.heap[q]? = H[q]? := fun q h1 h2 => by rw [e1]; exact hk q h1 h2
    obtain ⟨hP1, hD1⟩ := hB u t hb
    rw [← e1] at hP1
    obtain ⟨hP', hD'⟩ := va_join (wr := wr) (w1 := wn u) hP hD isC isR hC hR hn hdis hk' hFc hP1 hD1
    obtain ⟨t2, a1, b1⟩ := kk u T'.heap (locs ++ L) hp hP' hD' (vt_grow hS (fun q _ h => hFc q h) hFc hL (by rw [e1]; exact hz) hk') T' rfl X'
    exact ⟨t2, st t2 a1, b1⟩
  · obtain ⟨x, ⟨⟨cell, k1, k2, cls, k3, k4⟩, ⟨u, hp, hb⟩, hz, hk⟩, st⟩ := hq
    rw [h0] at hz hk
    have hk' : ∀ q : Nat, q < H.size → ¬ va_A wc H.size q → T'.heap[q]? = H[q]? := fun q h1 h2 => by rw [e1]; exact hk q h1 h2
    obtain ⟨hP1, hD1⟩ := hB u t hb
    rw [← e1] at hP1
    obtain ⟨hP', hD'⟩ := va_join (wr := wr) (w1 := wn u) hP hD isC isR hC hR hn hdis hk' hFc hP1 hD1
    obtain ⟨t2, a1, b1⟩ := kx x T' (locs ++ L) X' ⟨cell, by rw [e1]; exact k1, k2, cls, k3, by rw [← hal.findClass]; exact k4⟩ ⟨u, hp, hP', hD'⟩ (vt_grow hS (fun q _ h => hFc q h) hFc hL (by rw [e1]; exact hz) hk')
    exact ⟨t2, st t2 a1, b1⟩
/-- out of a method without handlers -/
theorem vo_leave {S S2 : Type} {post : S → Prop} {wn : S → va_W} {Qc : Array Value → State → Outcome → State → Prop} {post2 : S2 → Prop} {B2 : S2 → State → Prop} {k n : Nat} (hne : c.exceptionTable.isEmpty = true) (hlocks : meth.locks = false) (h1 : cells ≤ k) (h2 : slots ≤ n)
    (hB : ∀ (u : S) (t : State), post u → va_P D cL (wn u) t.heap → va_D A (wn u) → ∃ u2, post2 u2 ∧ B2 u2 t) :
    vo_K p l e R s m args below meth c (vo_MQ below Qc (vo_T cs post2 B2 A) args s k n A) cells slots A s.heap D { F0 m pc ls st0 with stack := rest } cs S post wn := by
  intro x T' locs1 X' hx hu hS
  have X' := stand_widen X' h1 h2
  obtain ⟨hw, hrun, hend, hW, hsame⟩ := X'.leaveThrown x (g := { F0 m pc ls st0 with stack := rest }) rfl rfl rfl (covers_of_empty hne _) hlocks
  obtain ⟨cell, c1, c2, cls, c3, c4⟩ := hx
  obtain ⟨u, hp, hP, hD⟩ := hu
  obtain ⟨u2, hp2, hb2⟩ := hB u (T'.setFrames (.throwing x :: below)) hp hP hD
  exact ⟨_, hw, Or.inr ⟨x, hrun, hend, ⟨⟨cell, c1, c2, cls, c3, c4⟩, ⟨u2, hp2, hb2⟩, hS.1, hS.2.1⟩, hW, locs1, hsame, hS.2.2⟩⟩
end VO4
