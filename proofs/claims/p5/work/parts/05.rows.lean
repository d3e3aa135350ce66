/-! What all contracts of this claim use: the words, a contract's start and end, a call as one row. -/
def vs_up : List String := ["java/lang/RuntimeException", "java/lang/Exception"]
/-- the words of the tables that an exception's making asks, at each of the places where one is thrown -/
def NJ : List Cond := vt_own "TaleMachine" 51 "java/lang/IllegalArgumentException" vs_up ++ (vs_ownN "TaleMachine" 80).filter (fun w => w.onTables) ++ [.castable "java/util/NoSuchElementException" "java/util/NoSuchElementException", .castable "java/lang/IllegalArgumentException" "java/lang/IllegalArgumentException"]
theorem NJ_ok : NJ.all (fun w => w.onTables && w.keepsFace) = true := by decide +kernel
theorem NJ_A : (Bundle.ownAtoms "TaleMachine" 51 "java/lang/IllegalArgumentException" vs_up).all (fun w => w.onTables || decide (w ∈ vt_four)) = true := by decide +kernel
theorem NJ_N : (vs_ownN "TaleMachine" 80).all (fun w => w.onTables || decide (w ∈ vt_four)) = true := by decide +kernel
def vs_texts : List (Nat × String) := [(49, "a parent is no fixed object that is there"), (78, "no such object"), (182, "no such value"), (145, "no frame"), (172, "nothing of that kind to show"), (177, "nothing that it has")]
def vs_str (U : State) : Prop := ∀ z ∈ vs_texts, ∃ a : Nat, vk_R "TaleMachine" z.1 z.2 a U
abbrev vs_n1 : Cond := .methodLinkNest "TaleMachine" 11 y_Script_init "TaleMachine"
abbrev vs_n2 : Cond := .methodLinkNest "TaleMachine" 18 y_World_init "TaleMachine"
abbrev vs_n3 : Cond := .methodLinkNest "TaleMachine$Teller" 48 y_Frame_init "TaleMachine"
def Tb (U : State) : Prop := vt_J NJ U ∧ (va_Nw vs_n1 U ∧ va_Nw vs_n2 U ∧ va_Nw vs_n3 U) ∧ (va_AO "TaleMachine$State" U ∧ va_AO "TaleMachine$Frame" U) ∧ vs_str U
theorem Tb.warm {s U : State} (hW : s.WarmedH U.vm) (h : Tb s) : Tb U :=
  ⟨vt_J.warm NJ_ok hW h.1, ⟨va_Nw.warmM hW h.2.1.1, va_Nw.warmM hW h.2.1.2.1, va_Nw.warmM hW h.2.1.2.2⟩, ⟨h.2.2.1.1.moved hW.alike, h.2.2.1.2.moved hW.alike⟩, fun z hz => by
    obtain ⟨a, ha⟩ := h.2.2.2 z hz
    exact ⟨a, vk_R.warm hW ha⟩⟩
theorem Tb_nest_Script {U : State} (h : Tb U) : va_Nw vs_n1 U := h.2.1.1
theorem Tb_nest_World {U : State} (h : Tb U) : va_Nw vs_n2 U := h.2.1.2.1
theorem Tb_nest_Frame {U : State} (h : Tb U) : va_Nw vs_n3 U := h.2.1.2.2
theorem Tb_ao_State {U : State} (h : Tb U) : va_AO "TaleMachine$State" U := h.2.2.1.1
theorem Tb_ao_Frame {U : State} (h : Tb U) : va_AO "TaleMachine$Frame" U := h.2.2.1.2
theorem Tb_cast_N {U : State} {a : Array Value} (h : Tb U) : (Cond.castable "java/util/NoSuchElementException" "java/util/NoSuchElementException").before a U = true := va_Nw.use rfl (h.1 _ (List.mem_append_right _ (List.mem_of_getElem? (i := 0) rfl)))
theorem Tb_cast_A {U : State} {a : Array Value} (h : Tb U) : (Cond.castable "java/lang/IllegalArgumentException" "java/lang/IllegalArgumentException").before a U = true := va_Nw.use rfl (h.1 _ (List.mem_append_right _ (List.mem_of_getElem? (i := 1) rfl)))
theorem Tb_A {A : Nat → Prop} {U : State} {args : Array Value} (h : Tb U) (hZ : vt_ZZ A U U.heap) : ∀ w ∈ Bundle.ownAtoms "TaleMachine" 51 "java/lang/IllegalArgumentException" vs_up, w.before args U = true := vt_atoms NJ_A (fun w hw => h.1 w (List.mem_append_left _ (List.mem_append_left _ hw))) hZ
theorem Tb_N {A : Nat → Prop} {U : State} {args : Array Value} (h : Tb U) (hZ : vt_ZZ A U U.heap) : ∀ w ∈ vs_ownN "TaleMachine" 80, w.before args U = true := vt_atomsL NJ_N (fun w hw => h.1 w (List.mem_append_left _ (List.mem_append_right _ hw))) hZ
/-- a contract's start and end -/
def pre_ (D : va_G) (wc : va_W) (tc : List (ClassId × FieldType)) (sz : Nat) (U : State) : Prop := U.heap.size = sz ∧ va_P D cL wc U.heap ∧ va_K D cL tc U ∧ va_D (fun _ => True) wc ∧ Tb U
def preT_ (D : va_G) (wc : va_W) (tc : List (ClassId × FieldType)) (sz : Nat) (U : State) : Prop := pre_ D wc tc sz U ∧ vt_ZZ (va_A wc sz) U U.heap
def post_ (D : va_G) (A : Nat → Prop) (wn : va_W) (t : State) : Prop := va_P D cL wn t.heap ∧ va_D A wn
theorem pre_call {D : va_G} {wc : va_W} {tc : List (ClassId × FieldType)} {sz : Nat} {U : State} (g : JFrame) (mk : MethodId) (a : Array Value) (h : pre_ D wc tc sz U) : pre_ D wc tc sz (U.calling g mk a) :=
  ⟨h.1, h.2.1, va_K.moved (u := U) (U := U.calling g mk a) (Vm.Alike.refl U.vm) h.2.2.1, h.2.2.2.1, Tb.warm (s := U) (U := U.calling g mk a) (State.WarmedH.refl U) h.2.2.2.2⟩
theorem pre_at {D : va_G} {wc : va_W} {tc : List (ClassId × FieldType)} {s U : State} {H : Heap} {A : Nat → Prop} (hP : va_P D cL wc H) (hK : va_K D cL tc s) (hD : va_D A wc) (hT : Tb s) (hU : U.heap = H) (hW : s.WarmedH U.vm) : pre_ D wc tc H.size U :=
  ⟨by rw [hU], by rw [hU]; exact hP, va_K.moved hW.alike hK, hD.weaken (fun _ _ _ _ => trivial), Tb.warm hW hT⟩
theorem pre_S {av : List Value} {D : va_G} {wc : va_W} {tc : List (ClassId × FieldType)} {s : State} {H : Heap} {A : Nat → Prop} (hP : va_P D cL wc H) (hK : va_K D cL tc s) (hD : va_D A wc) (hT : Tb s) : PreS s H (va_Pc av (pre_ D wc tc H.size)) av :=
  ⟨fun a U g mk q => ⟨q.1, pre_call g mk a q.2⟩, fun U hU hW => ⟨rfl, pre_at hP hK hD hT hU hW⟩⟩
theorem pre_V {av : List Value} {D : va_G} {wc : va_W} {tc : List (ClassId × FieldType)} {s : State} {H : Heap} {A : Nat → Prop} {C : String} {b : Nat} (hv : ∃ cell : Cell, H[b]? = some cell ∧ cell.vm.isStatics = false ∧ s.vm.findClass C = some cell.cls) (hP : va_P D cL wc H) (hK : va_K D cL tc s) (hD : va_D A wc) (hT : Tb s) : PreV s H C b (va_Pc (.ref b :: av) (pre_ D wc tc H.size)) av :=
  ⟨fun a U g mk q => ⟨q.1, pre_call g mk a q.2⟩, hv, fun U hU hW => ⟨rfl, pre_at hP hK hD hT hU hW⟩⟩
theorem vt_ZZ.at {A : Nat → Prop} {s : State} {H : Heap} {locs : List Loc} {wc : va_W} (h : vt_ZZ A s s.heap) (hS : va_S A s.heap H locs) (hF : ∀ q, va_A wc H.size q → A q) : vt_ZZ (va_A wc H.size) s H := (h.kept hS.2.1).narrow (fun q _ hq => hF q hq)
theorem preT_call {D : va_G} {wc : va_W} {tc : List (ClassId × FieldType)} {sz : Nat} {U : State} (g : JFrame) (mk : MethodId) (a : Array Value) (h : preT_ D wc tc sz U) : preT_ D wc tc sz (U.calling g mk a) :=
  ⟨pre_call g mk a h.1, vt_ZZ.moved (u := U) (U := U.calling g mk a) (Vm.Alike.refl U.vm) h.2⟩
theorem preT_S {av : List Value} {D : va_G} {wc : va_W} {tc : List (ClassId × FieldType)} {s : State} {H : Heap} {A : Nat → Prop} (hP : va_P D cL wc H) (hK : va_K D cL tc s) (hD : va_D A wc) (hT : Tb s) (hZ : vt_ZZ (va_A wc H.size) s H) : PreS s H (va_Pc av (preT_ D wc tc H.size)) av :=
  ⟨fun a U g mk q => ⟨q.1, preT_call g mk a q.2⟩, fun U hU hW => ⟨rfl, pre_at hP hK hD hT hU hW, by rw [hU]; exact hZ.moved hW.alike⟩⟩
theorem preT_V {av : List Value} {D : va_G} {wc : va_W} {tc : List (ClassId × FieldType)} {s : State} {H : Heap} {A : Nat → Prop} {C : String} {b : Nat} (hv : ∃ cell : Cell, H[b]? = some cell ∧ cell.vm.isStatics = false ∧ s.vm.findClass C = some cell.cls) (hP : va_P D cL wc H) (hK : va_K D cL tc s) (hD : va_D A wc) (hT : Tb s) (hZ : vt_ZZ (va_A wc H.size) s H) : PreV s H C b (va_Pc (.ref b :: av) (preT_ D wc tc H.size)) av :=
  ⟨fun a U g mk q => ⟨q.1, preT_call g mk a q.2⟩, hv, fun U hU hW => ⟨rfl, pre_at hP hK hD hT hU hW, by rw [hU]; exact hZ.moved hW.alike⟩⟩
/-- words of calls -/
theorem gw {w : Cond} (h : w ∈ AW) : (w.onTables && w.keeps) = true ∨ ∃ ty, w = .arrayClass ty := good_of_word (List.all_eq_true.mp AW_all w h)
theorem gIn {w0 : Cond} (h : w0 ∈ AW) : GoodIn AW (w0 :: AW) := fun w hw => by
  rcases List.mem_cons.mp hw with rfl | hw
  · exact ⟨h, gw h⟩
  · exact ⟨hw, gw hw⟩
theorem gInV {own C : String} {i : Nat} {y : MethodName} {w0 : Cond} (h1 : Cond.methodLink own i y ∈ AW) (h2 : Cond.instanceMethod y ∈ AW) (h3 : Cond.selects C y y ∈ AW) (h4 : Cond.initialized C ∈ AW) (h5 : w0 ∈ AW) : GoodIn AW (wsV own i C y (w0 :: AW)) := fun w hw => by
  unfold wsV at hw
  rcases List.mem_append.mp hw with hw | hw
  · simp only [List.mem_cons, List.not_mem_nil, or_false] at hw
    rcases hw with rfl | rfl | rfl | rfl
    · exact ⟨h1, gw h1⟩
    · exact ⟨h2, gw h2⟩
    · exact ⟨h3, gw h3⟩
    · exact ⟨h4, gw h4⟩
  · exact gIn h5 w hw
theorem gInS {own : String} {i : Nat} {y : MethodName} {w0 : Cond} (h1 : Cond.methodLink own i y ∈ AW) (h2 : Cond.static y ∈ AW) (h4 : Cond.initialized y.cls ∈ AW) (h5 : w0 ∈ AW) : GoodIn AW (va_wsS own i y (w0 :: AW)) := fun w hw => by
  unfold va_wsS at hw
  rcases List.mem_append.mp hw with hw | hw
  · simp only [List.mem_cons, List.not_mem_nil, or_false] at hw
    rcases hw with rfl | rfl | rfl
    · exact ⟨h1, gw h1⟩
    · exact ⟨h2, gw h2⟩
    · exact ⟨h4, gw h4⟩
  · exact gIn h5 w hw
section VS
variable {p : Program} {l : Launch} {e : Env} {R : Room} {s : State} {m : MethodId} {args : Array Value} {below : List Frame} {meth : Method} {c : Code} {H : Heap} {locs : List Loc} {cells slots : Nat} {Q : State → Prop}
variable {pc : Nat} {ls : Array Slot} {rest st0 : List Value} {a : Array Value} {A : Nat → Prop} {H0 : Heap} {mc ms : Nat} {D : va_G} {ws wc wr : va_W} {cc : ByteArray}
theorem mv_v {S : Type} {post : S → Prop} {B : S → State → Prop} (hr : va_Run p l e R s m args below meth c H locs cells slots mc ms (F0 m pc ls st0) rest (va_Qv post B (va_A wc H.size) a) (va_A wc H.size))
    (hP : va_P D cL ws H) (hD : va_D A ws) (hS : va_S A H0 H locs) (hA : ∀ q, H0.size ≤ q → A q) (isC isR : List Nat) (hC : isC.map (fun i => ws[i]?) = wc.map some) (hR : isR.map (fun i => ws[i]?) = wr.map some) (hn : va_nd isR = true) (hdis : ∀ i ∈ isR, i ∉ isC)
    {wn : S → va_W} (hB : ∀ u t, B u t → post_ D (va_A wc H.size) (wn u) t)
    (kk : ∀ (u : S) (H1 : Heap) (locs1 : List Loc), post u → va_P D cL (wr ++ wn u) H1 → va_D A (wr ++ wn u) → va_S A H0 H1 locs1 → W p l e R s m args below meth c H1 locs1 (cells + mc) (slots + ms) Q (F0 m (pc + 3) ls rest)) : W p l e R s m args below meth c H locs cells slots Q (F0 m pc ls st0) := by
  have hFc := va_free (wc := wc) hD hS hA isC hC
  refine va_callv hr hS (fun q _ h => hFc q h) hFc (fun u t H1 locs1 ht hvm hp hb hz hk hS1 => ?_)
  obtain ⟨hP1, hD1⟩ := hB u t hb
  rw [ht] at hP1
  obtain ⟨hP', hD'⟩ := va_join (wr := wr) (w1 := wn u) hP hD isC isR hC hR hn hdis hk hFc hP1 hD1
  exact kk u H1 locs1 hp hP' hD' hS1
theorem mv_i {S : Type} {post : Int32 → S → Prop} {B : S → State → Prop} (hr : va_Run p l e R s m args below meth c H locs cells slots mc ms (F0 m pc ls st0) rest (va_Qi post B (va_A wc H.size) a) (va_A wc H.size))
    (hP : va_P D cL ws H) (hD : va_D A ws) (hS : va_S A H0 H locs) (hA : ∀ q, H0.size ≤ q → A q) (isC isR : List Nat) (hC : isC.map (fun i => ws[i]?) = wc.map some) (hR : isR.map (fun i => ws[i]?) = wr.map some) (hn : va_nd isR = true) (hdis : ∀ i ∈ isR, i ∉ isC)
    {wn : S → va_W} (hB : ∀ u t, B u t → post_ D (va_A wc H.size) (wn u) t)
    (kk : ∀ (r : Int32) (u : S) (H1 : Heap) (locs1 : List Loc), post r u → va_P D cL (wr ++ wn u) H1 → va_D A (wr ++ wn u) → va_S A H0 H1 locs1 → W p l e R s m args below meth c H1 locs1 (cells + mc) (slots + ms) Q (F0 m (pc + 3) ls (.int r :: rest))) : W p l e R s m args below meth c H locs cells slots Q (F0 m pc ls st0) := by
  have hFc := va_free (wc := wc) hD hS hA isC hC
  refine va_calli hr hS (fun q _ h => hFc q h) hFc (fun r u t H1 locs1 ht hvm hp hb hz hk hS1 => ?_)
  obtain ⟨hP1, hD1⟩ := hB u t hb
  rw [ht] at hP1
  obtain ⟨hP', hD'⟩ := va_join (wr := wr) (w1 := wn u) hP hD isC isR hC hR hn hdis hk hFc hP1 hD1
  exact kk r u H1 locs1 hp hP' hD' hS1
theorem end_i {S : Type} {post : Int32 → S → Prop} {B : S → State → Prop} (hx : p.tables.exec = Jvm.exec) (hb : c.code = cc) (hr : meth.sig.returnType = some .int) (hlocks : meth.locks = false) (hS : va_S A s.heap H locs) {u : S} {r : Int32} (hB : ∀ t : State, t.heap = H → B u t) (hp : post r u) (h1 : cells ≤ mc) (h2 : slots ≤ ms) (hdg : decode cc pc = .ok (.ireturn, 1)) :
    W p l e R s m args below meth c H locs cells slots (MQ below (va_Qi post B A) args s mc ms A) (F0 m pc ls [.int r]) :=
  W.widen (k := mc) (n := ms) h1 h2 (W.iret hx hb hr (fun t ht _ => ⟨⟨r, u, rfl, hp, hB t ht⟩, hS.F ht⟩) hS.2.2 hdg hlocks)
theorem end_z {S : Type} {post : Int32 → S → Prop} {B : S → State → Prop} (hx : p.tables.exec = Jvm.exec) (hb : c.code = cc) (hr : meth.sig.returnType = some .boolean) (hlocks : meth.locks = false) (hS : va_S A s.heap H locs) {u : S} {r : Int32} (hB : ∀ t : State, t.heap = H → B u t) (hp : post r u) (hz : r = 0 ∨ r = 1) (h1 : cells ≤ mc) (h2 : slots ≤ ms) (hdg : decode cc pc = .ok (.ireturn, 1)) :
    W p l e R s m args below meth c H locs cells slots (MQ below (va_Qi post B A) args s mc ms A) (F0 m pc ls [.int r]) :=
  W.widen (k := mc) (n := ms) h1 h2 (W.zret hx hb hr (by rcases hz with rfl | rfl <;> decide) (fun t ht _ => ⟨⟨r, u, rfl, hp, hB t ht⟩, hS.F ht⟩) hS.2.2 hdg hlocks)
theorem end_v {S : Type} {post : S → Prop} {B : S → State → Prop} (hx : p.tables.exec = Jvm.exec) (hb : c.code = cc) (hr : meth.sig.returnType = none) (hlocks : meth.locks = false) (hS : va_S A s.heap H locs) {u : S} (hB : ∀ t : State, t.heap = H → B u t) (hp : post u) (h1 : cells ≤ mc) (h2 : slots ≤ ms) (hdg : decode cc pc = .ok (.return_, 1)) :
    W p l e R s m args below meth c H locs cells slots (MQ below (va_Qv post B A) args s mc ms A) (F0 m pc ls []) :=
  W.widen (k := mc) (n := ms) h1 h2 (W.vret hx hb hr (fun t ht _ => ⟨⟨u, rfl, hp, hB t ht⟩, hS.F ht⟩) hS.2.2 hdg hlocks)
theorem at_end {wn : va_W} (hP : va_P D cL wn H) (hD : va_D A wn) : ∀ t : State, t.heap = H → post_ D A wn t := fun t ht => ⟨by rw [ht]; exact hP, hD⟩
/-- a new array of a kind whose class is known already -/
theorem nw_i (hexec : p.tables.exec = Jvm.exec) (hb : c.code = cc) (harr : (Cond.arrayClass .int).before args s = true) {tys : List (ClassId × FieldType)} (hK : va_K D cL tys s) (t0 : Nat) {cI : ClassId} (ht0 : tys[t0]? = some (cI, .int)) (hP : va_P D cL ws H) (hD : va_D A ws) (hS : va_S A H0 H locs) (hA : ∀ q, H0.size ≤ q → A q)
    {n : Int32} {N' : Nat} (hn : ¬ n < 0) (hN : n.toNatClampNeg = N') (hbytes : N' * 4 ≤ 536870912) (hcells : cells + 1 ≤ R.cells) (hslots : slots + N' ≤ R.slots) (hdg : decode cc pc = .ok (.newarray .int, 2))
    (kk : ∀ (q : Nat) (H1 : Heap), va_P D cL (ws ++ [(q, .inl (cI, N', .inl (fun _ => 0)))]) H1 → va_D A (ws ++ [(q, .inl (cI, N', .inl (fun _ => 0)))]) → va_S A H0 H1 locs → W p l e R s m args below meth c H1 locs (cells + 1) (slots + N') Q (F0 m (pc + 2) ls (.ref q :: rest))) : W p l e R s m args below meth c H locs cells slots Q (F0 m pc ls (.int n :: rest)) := by
  refine va_newa hexec hb (atype := .int) harr (ty := .int) rfl hK hP hD hS hA (a0 := (N', .inl (fun _ => 0))) (fun _ => rfl) hn hN hbytes hcells hslots hdg (fun q cA H1 hK1 hP1 hD1 hS1 => ?_)
  have e1 : s.vm.findClass ("[" ++ FieldType.int.toString) = some cI := (hK.2 t0 _ ht0).2
  have e2 : s.vm.findClass ("[" ++ FieldType.int.toString) = some cA := (hK1.2 tys.length (cA, .int) (by rw [List.getElem?_append_right (Nat.le_refl _), Nat.sub_self]; rfl)).2
  obtain rfl : cI = cA := Option.some.inj (e1.symm.trans e2)
  exact kk q H1 hP1 hD1 hS1
theorem nw_z (hexec : p.tables.exec = Jvm.exec) (hb : c.code = cc) (harr : (Cond.arrayClass .boolean).before args s = true) {tys : List (ClassId × FieldType)} (hK : va_K D cL tys s) (t0 : Nat) {cI : ClassId} (ht0 : tys[t0]? = some (cI, .boolean)) (hP : va_P D cL ws H) (hD : va_D A ws) (hS : va_S A H0 H locs) (hA : ∀ q, H0.size ≤ q → A q)
    {n : Int32} {N' : Nat} (hn : ¬ n < 0) (hN : n.toNatClampNeg = N') (hbytes : N' * 4 ≤ 536870912) (hcells : cells + 1 ≤ R.cells) (hslots : slots + N' ≤ R.slots) (hdg : decode cc pc = .ok (.newarray .boolean, 2))
    (kk : ∀ (q : Nat) (H1 : Heap), va_P D cL (ws ++ [(q, .inl (cI, N', .inl (fun _ => 0)))]) H1 → va_D A (ws ++ [(q, .inl (cI, N', .inl (fun _ => 0)))]) → va_S A H0 H1 locs → W p l e R s m args below meth c H1 locs (cells + 1) (slots + N') Q (F0 m (pc + 2) ls (.ref q :: rest))) : W p l e R s m args below meth c H locs cells slots Q (F0 m pc ls (.int n :: rest)) := by
  refine va_newa hexec hb (atype := .boolean) harr (ty := .boolean) rfl hK hP hD hS hA (a0 := (N', .inl (fun _ => 0))) (fun _ => rfl) hn hN (Nat.le_trans (Nat.mul_le_mul_left _ (by decide)) hbytes) hcells hslots hdg (fun q cA H1 hK1 hP1 hD1 hS1 => ?_)
  have e1 : s.vm.findClass ("[" ++ FieldType.boolean.toString) = some cI := (hK.2 t0 _ ht0).2
  have e2 : s.vm.findClass ("[" ++ FieldType.boolean.toString) = some cA := (hK1.2 tys.length (cA, .boolean) (by rw [List.getElem?_append_right (Nat.le_refl _), Nat.sub_self]; rfl)).2
  obtain rfl : cI = cA := Option.some.inj (e1.symm.trans e2)
  exact kk q H1 hP1 hD1 hS1
theorem nw_l (hexec : p.tables.exec = Jvm.exec) (hb : c.code = cc) (harr : (Cond.arrayClass .long).before args s = true) {tys : List (ClassId × FieldType)} (hK : va_K D cL tys s) (t0 : Nat) {cI : ClassId} (ht0 : tys[t0]? = some (cI, .long)) (hP : va_P D cL ws H) (hD : va_D A ws) (hS : va_S A H0 H locs) (hA : ∀ q, H0.size ≤ q → A q)
    {n : Int32} {N' : Nat} (hn : ¬ n < 0) (hN : n.toNatClampNeg = N') (hbytes : N' * 8 ≤ 536870912) (hcells : cells + 1 ≤ R.cells) (hslots : slots + N' ≤ R.slots) (hdg : decode cc pc = .ok (.newarray .long, 2))
    (kk : ∀ (q : Nat) (H1 : Heap), va_P D cL (ws ++ [(q, .inl (cI, N', .inr (.inl (fun _ => 0))))]) H1 → va_D A (ws ++ [(q, .inl (cI, N', .inr (.inl (fun _ => 0))))]) → va_S A H0 H1 locs → W p l e R s m args below meth c H1 locs (cells + 1) (slots + N') Q (F0 m (pc + 2) ls (.ref q :: rest))) : W p l e R s m args below meth c H locs cells slots Q (F0 m pc ls (.int n :: rest)) := by
  refine va_newa hexec hb (atype := .long) harr (ty := .long) rfl hK hP hD hS hA (a0 := (N', .inr (.inl (fun _ => 0)))) (fun _ => rfl) hn hN hbytes hcells hslots hdg (fun q cA H1 hK1 hP1 hD1 hS1 => ?_)
  have e1 : s.vm.findClass ("[" ++ FieldType.long.toString) = some cI := (hK.2 t0 _ ht0).2
  have e2 : s.vm.findClass ("[" ++ FieldType.long.toString) = some cA := (hK1.2 tys.length (cA, .long) (by rw [List.getElem?_append_right (Nat.le_refl _), Nat.sub_self]; rfl)).2
  obtain rfl : cI = cA := Option.some.inj (e1.symm.trans e2)
  exact kk q H1 hP1 hD1 hS1
/-- a loop with a counter: the same cells and slots made at each turn -/
theorem lp_W {I : Nat → Heap → List Loc → Array Slot → Prop} {a b : Nat} (hab : a ≤ b)
    (body : ∀ (k : Nat) (H : Heap) (locs : List Loc) (ls : Array Slot), a ≤ k → k ≤ b → I k H locs ls → (k < b → ∀ (H1 : Heap) (locs1 : List Loc) (ls1 : Array Slot), I (k + 1) H1 locs1 ls1 → W p l e R s m args below meth c H1 locs1 cells slots Q (F0 m pc ls1 [])) → W p l e R s m args below meth c H locs cells slots Q (F0 m pc ls [])) :
    ∀ (H : Heap) (locs : List Loc) (ls : Array Slot), I a H locs ls → W p l e R s m args below meth c H locs cells slots Q (F0 m pc ls []) := by
  have key : ∀ (n k : Nat), a ≤ k → n + k = b → ∀ (H : Heap) (locs : List Loc) (ls : Array Slot), I k H locs ls → W p l e R s m args below meth c H locs cells slots Q (F0 m pc ls []) := by
    intro n
    induction n with
    | zero => intro k h1 h2 H locs ls hI; exact body k H locs ls h1 (by omega) hI (fun h => absurd h (by omega))
    | succ n ih => intro k h1 h2 H locs ls hI; exact body k H locs ls h1 (by omega) hI (fun _ H1 l1 s1 hI1 => ih (k + 1) (by omega) (by omega) H1 l1 s1 hI1)
  exact fun H locs ls hI => key (b - a) a (Nat.le_refl _) (by omega) H locs ls hI
/-- new X; dup; ldc; X.<init>(String); athrow -/
theorem th_go (hexec : p.tables.exec = Jvm.exec) (hb : c.code = cc) (hl : l.stackTraces = false) {cls : String} {ic ix it : Nat} {tx : String} (hown : s.vm.findClass "TaleMachine" = some m.cls) (hcls : Bundle.fit cls = true)
    (h : ∀ w ∈ Bundle.ownAtoms "TaleMachine" ic cls vs_up, w.before args s = true) (hcl : (Cond.classLink "TaleMachine" ix cls).before args s = true) (hini : (Cond.initialized cls).before args s = true) (hT : Tb s) (htx : (it, tx) ∈ vs_texts)
    (hS : va_S A s.heap H locs) (hns : ∀ q, A q → ∀ cell : Cell, s.heap[q]? = some cell → cell.vm.isStatics = false)
    (hne : c.exceptionTable.isEmpty = true) (hsz : ls.size = c.maxLocals) (hlocks : meth.locks = false) (d0 : decode cc pc = .ok (.new ix, 3)) (d3 : decode cc (pc + 3) = .ok (.dup, 1)) (d4 : decode cc (pc + 4) = .ok (.ldc it, 2)) (d6 : decode cc (pc + 6) = .ok (.invokespecial ic, 3)) (d9 : decode cc (pc + 9) = .ok (.athrow, 1))
    (hRf : 5 < R.frames) (hRl : 100 ≤ R.locals) (hRc : cells + 1 ≤ R.cells) (hRs : slots + 6 ≤ R.slots) (h1 : cells + 1 ≤ mc) (h2 : slots + 6 ≤ ms) :
    W p l e R s m args below meth c H locs cells slots (vt_MQ below (vt_Q cls A) args s mc ms A) (F0 m pc ls []) := by
  refine W.newc hexec hb hown hcl (n := 6) (h _ (by simp [Bundle.ownAtoms])) hini (g := F0 m pc ls []) rfl d0 hRc hRs (fun cC kC e1 e2 e3 e4 => ?_)
  refine W.eq (g2 := F0 m (pc + 3) ls [.ref H.size]) rfl ?_
  refine lv_dup hexec hb d3 rfl ?_
  obtain ⟨qm, hqm⟩ := hT.2.2.2 _ htx
  refine va_ldcS hexec hb hown hqm d4 ?_
  refine W.widen (k := mc) (n := ms) h1 h2 ?_
  refine vt_throwS (q := H.size) (qm := qm) (cX := cC) (kX := kC) hexec hb hl hown hcls (names := vs_up) (by decide) h (H := H.push { cls := cC, slots := kC.instanceTypes.map defaultValue, vm := .none }) (locs := locs) ⟨by rw [Array.size_push]; exact Nat.le_trans hS.1 (Nat.le_succ _), fun z hz hzA => ?_, hS.2.2⟩ hns e1 e2 (by simp) hS.1 hne hsz hlocks d6 d9 hRf ?_
  · rw [Array.getElem?_push, if_neg (by have := hS.1; omega)]
    exact hS.2.1 z hz hzA
  · show 2 * 0 + (1 + 0) + (13 * (2 + 1) + 42) ≤ R.locals
    omega
/-- new X; dup; ldc; X.<init>(String); athrow -/
theorem th_goN (hexec : p.tables.exec = Jvm.exec) (hb : c.code = cc) (hl : l.stackTraces = false) {ic ix it : Nat} {tx : String} (hown : s.vm.findClass "TaleMachine" = some m.cls)
    (h : ∀ w ∈ vs_ownN "TaleMachine" ic, w.before args s = true) (hcl : (Cond.classLink "TaleMachine" ix vs_NS).before args s = true) (hini : (Cond.initialized vs_NS).before args s = true) (hT : Tb s) (htx : (it, tx) ∈ vs_texts)
    (hS : va_S A s.heap H locs) (hns : ∀ q, A q → ∀ cell : Cell, s.heap[q]? = some cell → cell.vm.isStatics = false)
    (hne : c.exceptionTable.isEmpty = true) (hsz : ls.size = c.maxLocals) (hlocks : meth.locks = false) (d0 : decode cc pc = .ok (.new ix, 3)) (d3 : decode cc (pc + 3) = .ok (.dup, 1)) (d4 : decode cc (pc + 4) = .ok (.ldc it, 2)) (d6 : decode cc (pc + 6) = .ok (.invokespecial ic, 3)) (d9 : decode cc (pc + 9) = .ok (.athrow, 1))
    (hRf : 5 < R.frames) (hRl : 100 ≤ R.locals) (hRc : cells + 1 ≤ R.cells) (hRs : slots + 6 ≤ R.slots) (h1 : cells + 1 ≤ mc) (h2 : slots + 6 ≤ ms) :
    W p l e R s m args below meth c H locs cells slots (vt_MQ below (vt_Q vs_NS A) args s mc ms A) (F0 m pc ls []) := by
  refine W.newc hexec hb hown hcl (n := 6) (h _ (List.mem_cons_of_mem _ (List.mem_append_right _ (List.mem_append_right _ (List.mem_append_right _ (List.mem_append_right _ (List.mem_of_getElem? (i := 0) rfl))))))) hini (g := F0 m pc ls []) rfl d0 hRc hRs (fun cC kC e1 e2 e3 e4 => ?_)
  refine W.eq (g2 := F0 m (pc + 3) ls [.ref H.size]) rfl ?_
  refine lv_dup hexec hb d3 rfl ?_
  obtain ⟨qm, hqm⟩ := hT.2.2.2 _ htx
  refine va_ldcS hexec hb hown hqm d4 ?_
  refine W.widen (k := mc) (n := ms) h1 h2 ?_
  refine vt_throwN (q := H.size) (qm := qm) (cX := cC) (kX := kC) hexec hb hl hown h (H := H.push { cls := cC, slots := kC.instanceTypes.map defaultValue, vm := .none }) (locs := locs) ⟨by rw [Array.size_push]; exact Nat.le_trans hS.1 (Nat.le_succ _), fun z hz hzA => ?_, hS.2.2⟩ hns e1 e2 (by simp) hS.1 hne hsz hlocks d6 d9 hRf ?_
  · rw [Array.getElem?_push, if_neg (by have := hS.1; omega)]
    exact hS.2.1 z hz hzA
  · show 2 * 0 + (1 + 0) + 81 ≤ R.locals
    omega
end VS
/-- the table of a method with handlers, by its word -/
theorem vt_table {y : MethodName} {bytes : ByteArray} {maxL : Nat} {ret : Option FieldType} {hh : List (Nat × Nat × Nat × Nat)} {args : Array Value} {s : State} {m : MethodId} {meth : Method} {c : Code} (hn : s.methodNamed? y = some m) (hm : s.vm.method? m = some meth) (hc : meth.code = some c) (h : (Cond.codeWith y bytes maxL ret hh).before args s = true) :
    c.exceptionTable.toList.map (fun h => (h.startPc, h.endPc, h.handlerPc, h.catchType)) = hh := by
  obtain ⟨m', meth', c', h1, h2, h3, -, -, h6, -⟩ := Cond.codeWith_spec h
  cases hn.symm.trans h1
  cases hm.symm.trans h2
  cases hc.symm.trans h3
  exact h6
theorem md_ix (o : Int32) (h : ¬ (o < 0 ∨ 31 < o)) : vp_in (29 * o) 5568 := by
  obtain ⟨j, hj, rfl⟩ := nI_of2 (M := 31) (n := 31) (by decide) (fun z => h (Or.inl z)) (Int32.not_lt.mp (fun z => h (Or.inr z)))
  rw [show (29 : Int32) = nI 29 from rfl, pk_mul]
  exact vp_in_nI (by omega) (by decide)
theorem md_ixk {k : Nat} (h : k < 32) : vp_in (29 * nI k) 5568 := by
  rw [show (29 : Int32) = nI 29 from rfl, pk_mul]
  exact vp_in_nI (by omega) (by decide)
theorem md_all (k : Int32) : k < 0 ∨ -1 < k := by
  simp only [Int32.lt_iff_toInt_lt]
  have h1 : (0 : Int32).toInt = 0 := by decide
  have h2 : (-1 : Int32).toInt = -1 := by decide
  omega
theorem md_eq {k : Int32} (h : ¬ (k < -1 ∨ -1 < k)) : k = -1 := by
  simp only [Int32.lt_iff_toInt_lt] at h
  exact Int32.toInt_inj.mp (by omega)
theorem vs_ext {D : va_G} {cI : ClassId} {a n : Nat} {f g : Nat → Int32} {H : Heap} (h : ∀ j, j < n → f j = g j) (hP : va_P D cL [(a, .inl (cI, n, .inl f))] H) : va_P D cL [(a, .inl (cI, n, .inl g))] H := by
  have e : vp_cell cI (n, .inl f) = vp_cell cI (n, .inl g) := by
    have e2 : (Array.ofFn (n := n) fun j => Value.int (f j.val)) = (Array.ofFn (n := n) fun j => Value.int (g j.val)) := by
      congr 1
      funext j
      rw [h j.val j.isLt]
    show ({ cls := cI, slots := Array.ofFn (n := n) fun j => Value.int (f j.val), vm := .none } : Cell) = { cls := cI, slots := Array.ofFn (n := n) fun j => Value.int (g j.val), vm := .none }
    rw [e2]
  have h0 : H[a]? = some (vp_cell cI (n, .inl f)) := hP 0 _ rfl
  intro k q hk
  cases k with
  | zero =>
    cases hk
    show H[a]? = some (vp_cell cI (n, .inl g))
    rw [← e]
    exact h0
  | succ k => simp at hk
theorem ws_ix {x : Int32} (h1 : ¬ x < 16) (h2 : ¬ 32 ≤ x) : vp_in (x - 16) 16 := by
  have a0 : (0 : Int32).toInt = 0 := by decide
  have a1 : (16 : Int32).toInt = 16 := by decide
  have a2 : (32 : Int32).toInt = 32 := by decide
  have a3 : (31 : Int32).toInt = 31 := by decide
  have b1 : ¬ x < 0 := by
    simp only [Int32.lt_iff_toInt_lt] at h1 ⊢
    omega
  have b2 : x ≤ 31 := by
    simp only [Int32.le_iff_toInt_le] at h2 ⊢
    omega
  obtain ⟨j, hj, rfl⟩ := nI_of2 (M := 31) (n := 31) (by decide) b1 b2
  have h16 : 16 ≤ j := Nat.le_of_not_lt (fun z => h1 (by rw [show (16 : Int32) = nI 16 from rfl]; exact nI_lt z (by decide)))
  rw [show (16 : Int32) = nI 16 from rfl, pk_sub h16]
  exact vp_in_nI (by omega) (by decide)
theorem in_c {i : Int32} {n : Nat} (h : ¬ (i < 0 ∨ n ≤ i.toNatClampNeg)) : vp_in i n := h
theorem sw_out {x : Int32} (h1 : ¬ x = 1) (h2 : ¬ x = 2) (hw : (x < 0 ∨ 5 < x) ∨ x = 1 ∨ x = 2) : x.toInt < 0 ∨ 5 < x.toInt := by
  have a0 : (0 : Int32).toInt = 0 := by decide
  have a1 : (5 : Int32).toInt = 5 := by decide
  rcases hw with (h | h) | h | h
  · exact Or.inl (by simp only [Int32.lt_iff_toInt_lt] at h; omega)
  · exact Or.inr (by simp only [Int32.lt_iff_toInt_lt] at h; omega)
  · exact absurd h h1
  · exact absurd h h2
theorem va_nil {D : va_G} {H : Heap} : va_P D cL [] H := fun k q hk => by simp at hk
/-- a call of a static method with handlers -/
def VW (R : Room) (s : State) (args : Array Value) (own : String) (index : Nat) (y : MethodName) (bytes : ByteArray) (maxL : Nat) (ret : Option FieldType) (hh : List (Nat × Nat × Nat × Nat)) (ws : List Cond) (rm : Room) (mc ms n : Nat) : Prop :=
  rm.cells = mc ∧ rm.slots = ms ∧ rm.frames + 1 ≤ R.frames ∧ 8 + (maxL + 11) + rm.locals ≤ R.locals ∧ (∀ w ∈ ws, ∀ (a' : Array Value) (U : State), s.WarmedH U.vm → w.before a' U = true) ∧ Cond.codeWith y bytes maxL ret hh ∈ ws ∧
  (Cond.codeWith y bytes maxL ret hh).before args s = true ∧ (Cond.initialized y.cls).before args s = true ∧ (y.cls ≠ "java/lang/invoke/MethodHandle" ∧ y.cls ≠ "java/lang/invoke/VarHandle") ∧ (∀ sig, parseMethodDescriptor y.desc = some sig → n = sig.parameters.length) ∧ (Cond.methodLink own index y).before args s = true ∧ (Cond.static y).before args s = true
theorem vw_cw {R : Room} {s : State} {args : Array Value} {own : String} {index : Nat} {y : MethodName} {bytes : ByteArray} {maxL mc ms : Nat} {ret : Option FieldType} {hh : List (Nat × Nat × Nat × Nat)} {rm : Room} (n : Nat) (ht : ∀ w ∈ AW, w.before args s = true) (h1 : Cond.methodLink own index y ∈ AW) (h2 : Cond.static y ∈ AW) (h3 : Cond.initialized y.cls ∈ AW) (h4 : Cond.codeWith y bytes maxL ret hh ∈ AW) (hrc : rm.cells = mc) (hrs : rm.slots = ms)
    (hd : y.cls ≠ "java/lang/invoke/MethodHandle" ∧ y.cls ≠ "java/lang/invoke/VarHandle" ∧ (parseMethodDescriptor y.desc).map (fun d => d.parameters.length) = some n) (hR : rm.frames + 1 ≤ R.frames ∧ 8 + (maxL + 11) + rm.locals ≤ R.locals) : VW R s args own index y bytes maxL ret hh (Cond.codeWith y bytes maxL ret hh :: AW) rm mc ms n := by
  refine ⟨hrc, hrs, hR.1, hR.2, pay_in ht (gIn h4), List.mem_cons_self, ht _ h4, ht _ h3, ⟨hd.1, hd.2.1⟩, fun sig h => ?_, ht _ h1, ht _ h2⟩
  have h5 := hd.2.2
  rw [h] at h5
  exact (Option.some.inj h5).symm
section VS2
variable {p : Program} {l : Launch} {e : Env} {R : Room} {s : State} {m : MethodId} {args : Array Value} {below : List Frame} {meth : Method} {c : Code} {H : Heap} {locs : List Loc} {cells slots : Nat}
theorem vw_runS {y : MethodName} {bytes cc : ByteArray} {maxL nL mc ms n index : Nat} {ret : Option FieldType} {hh : List (Nat × Nat × Nat × Nat)} {ws : List Cond} {rm : Room} {Pc : Array Value → State → Prop} {Qc : Array Value → State → Outcome → State → Prop} {free : Addr → Prop} {Ts : List Cond} {own : String} {As rest : List Value} {g : JFrame}
    (S : CallFix p m c cc nL s args Ts own) (hM : Met l y ws rm Pc Qc mc ms free) (cw : VW R s args own index y bytes maxL ret hh ws rm mc ms n) (hp : PreS s H Pc As)
    (hg : g.method = m) (hn : As.length = n) (hsize : g.locals.size = nL) (hstack : g.stack = As.reverse ++ rest) (hW : 2 * g.monitorRoom + (rest.map fun v => v.category).sum ≤ 8) (hdg : decode cc g.pc = .ok (.invokestatic index, 3)) (hf : cells + mc ≤ R.cells ∧ slots + ms ≤ R.slots) :
    va_Run p l e R s m args below meth c H locs cells slots mc ms g rest (Qc As.toArray) (free) := by
  obtain ⟨hrc, hrs, hfr, hlo, hws, hcw, hcode, hinit, hy, hlen, hlink, hstat⟩ := cw
  have hK : Back l R p e below s args y 3 8 (PreOf R mc ms Pc) (PostOf Qc mc ms free) := va_backW hM hp.1 hrc hrs hfr hlo hws hcw (fun a' U hW => word_at hW (Or.inl (by first | rfl | simp [Cond.onTables, Cond.keeps, Cond.steady])) hinit)
  obtain ⟨hexec, hb, hml, hown, -⟩ := S
  intro T hT X
  obtain ⟨mk, methM, cM, hnamed, hmethM, -, -, -, -, -, -, hsigM⟩ := Cond.codeWith_spec hcode
  have hstatic : methM.isStatic = true := Cond.static_spec hnamed hmethM hstat
  obtain ⟨kP, hkP, -⟩ := className_of_methodNamed hnamed
  have hinitP : kP.init = .initialized := Cond.initialized_spec (findClass_of_methodNamed hnamed) hkP hinit
  obtain ⟨vm₁, X₁, hstep₁⟩ := X.invokestatic hexec hown hlink hnamed hmethM hstatic hkP hinitP hy (g := g) hg (argsL := As) (rest := rest) (hn.trans (hlen _ hsigM)) hstack (by rw [hb]; exact hdg)
  obtain ⟨v, ⟨U', l2, c2, s2⟩, X', ⟨g', mk', t, L, e1, e2, hq, h1, hL, h2, h3⟩, hsteps⟩ := hK m meth c ⟨T.setVm vm₁, locs, cells, slots⟩ { g with stack := rest } (.invokestatic index) mk As.toArray X₁ hg (hsize.trans hml.symm) (by rw [hb]; exact hdg) hW (X₁.named hnamed) ⟨hf.1, hf.2, hp.2 (T.setVm vm₁) hT X₁.warmed⟩
  dsimp only [Pt.U, Pt.locs, Pt.cells, Pt.slots] at X' e1 e2 h1 h2 h3 hsteps
  subst h1; subst h2; subst h3
  exact ⟨v, (T.setVm vm₁).calling g' mk' As.toArray, t, U', L, hT, X', hL, e1, e2, hq, fun target h => hstep₁ _ fun acts => by rw [doInvoke_state]; exact hsteps.trans h⟩
end VS2
section VS3
variable {p : Program} {l : Launch} {e : Env} {R : Room} {s : State} {m : MethodId} {args : Array Value} {below : List Frame} {meth : Method} {c : Code} {H : Heap} {locs : List Loc} {cells slots : Nat} {Q : State → Prop}
variable {pc : Nat} {ls : Array Slot} {rest : List Value} {A : Nat → Prop} {H0 : Heap} {D : va_G} {ws : va_W} {cc : ByteArray} {tys : List (ClassId × FieldType)} {a : Nat}
/-- arrays at a place that is a Nat -/
theorem ia_ld (hexec : p.tables.exec = Jvm.exec) (hb : c.code = cc) (hK : va_K D cL tys s) (hP : va_P D cL ws H) (q0 t0 : Nat) {cA : ClassId} {n k : Nat} {f : Nat → Int32} (ha : ws[q0]? = some (a, .inl (cA, n, .inl f))) (ht : tys[t0]? = some (cA, .int)) (hk : k < n) (hn : n < 2 ^ 31) (hdg : decode cc pc = .ok (.iaload, 1))
    (kk : W p l e R s m args below meth c H locs cells slots Q (F0 m (pc + 1) ls (.int (f k) :: rest))) : W p l e R s m args below meth c H locs cells slots Q (F0 m pc ls (.int (nI k) :: .ref a :: rest)) := by
  refine va_iald hexec hb hK hP q0 t0 ha ht (vp_in_nI hk hn) hdg ?_
  rw [nI_clamp (Nat.lt_trans hk hn)]
  exact kk
theorem za_ld (hexec : p.tables.exec = Jvm.exec) (hb : c.code = cc) (hK : va_K D cL tys s) (hP : va_P D cL ws H) (q0 t0 : Nat) {cA : ClassId} {n k : Nat} {f : Nat → Int32} (ha : ws[q0]? = some (a, .inl (cA, n, .inl f))) (ht : tys[t0]? = some (cA, .boolean)) (hk : k < n) (hn : n < 2 ^ 31) (hdg : decode cc pc = .ok (.baload, 1))
    (kk : W p l e R s m args below meth c H locs cells slots Q (F0 m (pc + 1) ls (.int (f k) :: rest))) : W p l e R s m args below meth c H locs cells slots Q (F0 m pc ls (.int (nI k) :: .ref a :: rest)) := by
  refine va_zald hexec hb hK hP q0 t0 ha ht (vp_in_nI hk hn) hdg ?_
  rw [nI_clamp (Nat.lt_trans hk hn)]
  exact kk
theorem ia_st (hexec : p.tables.exec = Jvm.exec) (hb : c.code = cc) (hK : va_K D cL tys s) (hP : va_P D cL ws H) (hD : va_D A ws) (hS : va_S A H0 H locs) (q0 t0 : Nat) {cA : ClassId} {n k : Nat} {f : Nat → Int32} (ha : ws[q0]? = some (a, .inl (cA, n, .inl f))) (ht : tys[t0]? = some (cA, .int)) {x : Int32} (hk : k < n) (hn : n < 2 ^ 31) (hdg : decode cc pc = .ok (.iastore, 1))
    (kk : ∀ (H1 : Heap) (locs1 : List Loc), va_P D cL (ws.set q0 (a, .inl (cA, n, .inl (upd f k x)))) H1 → va_D A (ws.set q0 (a, .inl (cA, n, .inl (upd f k x)))) → va_S A H0 H1 locs1 → W p l e R s m args below meth c H1 locs1 cells slots Q (F0 m (pc + 1) ls rest)) : W p l e R s m args below meth c H locs cells slots Q (F0 m pc ls (.int x :: .int (nI k) :: .ref a :: rest)) := by
  refine va_iast hexec hb hK hP hD hS q0 t0 ha ht (vp_in_nI hk hn) hdg (fun H1 locs1 h1 h2 h3 => ?_)
  rw [nI_clamp (Nat.lt_trans hk hn)] at h1 h2
  exact kk H1 locs1 h1 h2 h3
theorem za_st (hexec : p.tables.exec = Jvm.exec) (hb : c.code = cc) (hK : va_K D cL tys s) (hP : va_P D cL ws H) (hD : va_D A ws) (hS : va_S A H0 H locs) (q0 t0 : Nat) {cA : ClassId} {n k : Nat} {f : Nat → Int32} (ha : ws[q0]? = some (a, .inl (cA, n, .inl f))) (ht : tys[t0]? = some (cA, .boolean)) {x : Int32} (hx01 : x = 0 ∨ x = 1) (hk : k < n) (hn : n < 2 ^ 31) (hdg : decode cc pc = .ok (.bastore, 1))
    (kk : ∀ (H1 : Heap) (locs1 : List Loc), va_P D cL (ws.set q0 (a, .inl (cA, n, .inl (upd f k x)))) H1 → va_D A (ws.set q0 (a, .inl (cA, n, .inl (upd f k x)))) → va_S A H0 H1 locs1 → W p l e R s m args below meth c H1 locs1 cells slots Q (F0 m (pc + 1) ls rest)) : W p l e R s m args below meth c H locs cells slots Q (F0 m pc ls (.int x :: .int (nI k) :: .ref a :: rest)) := by
  refine va_zast hexec hb hK hP hD hS q0 t0 ha ht (vp_in_nI hk hn) hdg (fun H1 locs1 h1 h2 h3 => ?_)
  have e : vp_nar .boolean x = x := by rcases hx01 with rfl | rfl <;> rfl
  rw [nI_clamp (Nat.lt_trans hk hn), e] at h1 h2
  exact kk H1 locs1 h1 h2 h3
end VS3
