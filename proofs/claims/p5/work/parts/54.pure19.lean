/-! what rides with a method that throws -/
def vx_Z (A : Nat → Prop) (U : State) (H : Heap) : Prop := Tc U ∧ vt_ZZ A U H
theorem vx_Z.warm {A : Nat → Prop} {s U : State} {H : Heap} (hW : s.WarmedH U.vm) (h : vx_Z A s H) : vx_Z A U H := ⟨h.1.warm hW, h.2.moved hW.alike⟩
theorem vx_Z.at {A : Nat → Prop} {s : State} {H : Heap} {locs : List Loc} {wc : va_W} (h : vx_Z A s s.heap) (hS : va_S A s.heap H locs) (hF : ∀ q, va_A wc H.size q → A q) : vx_Z (va_A wc H.size) s H := ⟨h.1, h.2.at hS hF⟩
def preX_ (D : va_G) (wc : va_W) (tc : List (ClassId × FieldType)) (sz : Nat) (U : State) : Prop := pre_ D wc tc sz U ∧ vx_Z (va_A wc sz) U U.heap
theorem preX_call {D : va_G} {wc : va_W} {tc : List (ClassId × FieldType)} {sz : Nat} {U : State} (g : JFrame) (mk : MethodId) (a : Array Value) (h : preX_ D wc tc sz U) : preX_ D wc tc sz (U.calling g mk a) :=
  ⟨pre_call g mk a h.1, vx_Z.warm (s := U) (U := U.calling g mk a) (State.WarmedH.refl U) h.2⟩
theorem preX_S {av : List Value} {D : va_G} {wc : va_W} {tc : List (ClassId × FieldType)} {s : State} {H : Heap} {A : Nat → Prop} (hP : va_P D cL wc H) (hK : va_K D cL tc s) (hD : va_D A wc) (hT : Tb s) (hZ : vx_Z (va_A wc H.size) s H) : PreS s H (va_Pc av (preX_ D wc tc H.size)) av :=
  ⟨fun a U g mk q => ⟨q.1, preX_call g mk a q.2⟩, fun U hU hW => ⟨rfl, pre_at hP hK hD hT hU hW, by rw [hU]; exact hZ.warm hW⟩⟩
theorem preX_V {av : List Value} {D : va_G} {wc : va_W} {tc : List (ClassId × FieldType)} {s : State} {H : Heap} {A : Nat → Prop} {C : String} {b : Nat} (hv : ∃ cell : Cell, H[b]? = some cell ∧ cell.vm.isStatics = false ∧ s.vm.findClass C = some cell.cls) (hP : va_P D cL wc H) (hK : va_K D cL tc s) (hD : va_D A wc) (hT : Tb s) (hZ : vx_Z (va_A wc H.size) s H) : PreV s H C b (va_Pc (.ref b :: av) (preX_ D wc tc H.size)) av :=
  ⟨fun a U g mk q => ⟨q.1, preX_call g mk a q.2⟩, hv, fun U hU hW => ⟨rfl, pre_at hP hK hD hT hU hW, by rw [hU]; exact hZ.warm hW⟩⟩
theorem mn_lt {z fu : Int32} {k : Nat} (hz : z = if (3000 : Int32) < fu then 3000 else fu) (hk : k ≤ 3000) (h : ¬ z ≤ nI k) : k < 3000 := by
  rcases Nat.lt_or_ge k 3000 with h1 | h1
  · exact h1
  · exfalso
    obtain rfl : k = 3000 := by omega
    apply h
    rw [hz]
    by_cases h2 : (3000 : Int32) < fu
    · rw [if_pos h2]; exact Int32.le_refl _
    · rw [if_neg h2]; exact Int32.not_lt.mp h2
