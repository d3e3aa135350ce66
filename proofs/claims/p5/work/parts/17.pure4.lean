section VS4
variable {p : Program} {l : Launch} {e : Env} {R : Room} {s : State} {m : MethodId} {args : Array Value} {below : List Frame} {meth : Method} {c : Code} {H : Heap} {locs : List Loc} {cells slots : Nat} {Q : State → Prop}
variable {pc : Nat} {ls : Array Slot} {rest : List Value} {A : Nat → Prop} {H0 : Heap} {D : va_G} {ws : va_W} {cc : ByteArray} {tys : List (ClassId × FieldType)} {a : Nat}
theorem ac_i (hexec : p.tables.exec = Jvm.exec) (hb : c.code = cc) (hml : c.maxLocals = ls.size) {own : String} {index : Nat} (hown : s.vm.findClass own = some m.cls) (hlink : (Cond.methodLink own index arraycopyName).before args s = true) (hnat : (Cond.native arraycopyName).before args s = true) (hstat : (Cond.static arraycopyName).before args s = true) (hini : (Cond.initialized "java/lang/System").before args s = true)
    (hK : va_K D cL tys s) (hP : va_P D cL ws H) (hD : va_D A ws) (hS : va_S A H0 H locs) (q0 q1 t0 : Nat) {a0 : Nat} {cI : ClassId} {n0 n1 : Nat} {f g : Nat → Int32} (ha0 : ws[q0]? = some (a0, .inl (cI, n0, .inl f))) (ha1 : ws[q1]? = some (a, .inl (cI, n1, .inl g))) (ht0 : tys[t0]? = some (cI, .int))
    {x y z : Nat} (h4 : x + z ≤ n0) (h5 : y + z ≤ n1) (hn0 : n0 < 2 ^ 31) (hn1 : n1 < 2 ^ 31)
    (hframes : 1 ≤ R.frames) (hlocals : (rest.map fun v => v.category).sum + (nativeFrameWords "java/lang/System" "arraycopy" 5 + 11) ≤ R.locals) (hdg : decode cc pc = .ok (.invokestatic index, 3))
    (kk : ∀ (H1 : Heap) (locs1 : List Loc), va_P D cL (ws.set q1 (a, .inl (cI, n1, .inl (va_cpy f g x y z)))) H1 → va_D A (ws.set q1 (a, .inl (cI, n1, .inl (va_cpy f g x y z)))) → va_S A H0 H1 locs1 → W p l e R s m args below meth c H1 locs1 cells slots Q (F0 m (pc + 3) ls rest)) : W p l e R s m args below meth c H locs cells slots Q (F0 m pc ls (.int (nI z) :: .int (nI y) :: .ref a :: .int (nI x) :: .ref a0 :: rest)) := by
  have ex : (nI x).toNatClampNeg = x := nI_clamp (by omega)
  have ey : (nI y).toNatClampNeg = y := nI_clamp (by omega)
  have ez : (nI z).toNatClampNeg = z := nI_clamp (by omega)
  refine va_copyi hexec hb hml hown hlink hnat hstat hini hK hP hD hS q0 q1 t0 t0 ha0 ha1 ht0 ht0 rfl (nI_pos (by omega)) (nI_pos (by omega)) (nI_pos (by omega)) (by rw [ex, ez]; exact h4) (by rw [ey, ez]; exact h5) (fun i _ => rfl) hframes hlocals hdg (fun H1 locs1 h1 h2 h3 => ?_)
  rw [ex, ey, ez] at h1 h2
  exact kk H1 locs1 h1 h2 h3
end VS4
/-- another name of what an array holds -/
theorem cell_ext {D : va_G} {ws : va_W} {H : Heap} {cA : ClassId} {a n : Nat} {f g : Nat → Int32} (hP : va_P D cL ws H) (q0 : Nat) (h0 : ws[q0]? = some (a, .inl (cA, n, .inl f))) (h : ∀ j, j < n → f j = g j) : va_P D cL (ws.set q0 (a, .inl (cA, n, .inl g))) H := by
  have hl := (List.getElem?_eq_some_iff.mp h0).1
  have e : vp_cell cA (n, .inl f) = vp_cell cA (n, .inl g) := by
    have e2 : (Array.ofFn (n := n) fun j => Value.int (f j.val)) = (Array.ofFn (n := n) fun j => Value.int (g j.val)) := by
      congr 1
      funext j
      rw [h j.val j.isLt]
    show ({ cls := cA, slots := Array.ofFn (n := n) fun j => Value.int (f j.val), vm := .none } : Cell) = { cls := cA, slots := Array.ofFn (n := n) fun j => Value.int (g j.val), vm := .none }
    rw [e2]
  intro k q hk
  by_cases hkq : k = q0
  · subst hkq
    rw [List.getElem?_set_self hl] at hk
    cases hk
    show H[a]? = some (vp_cell cA (n, .inl g))
    rw [← e]
    exact hP k _ h0
  · rw [List.getElem?_set_ne (Ne.symm hkq)] at hk
    exact hP k q hk
theorem cpy_all {f g : Nat → Int32} {n : Nat} : ∀ j, j < n → va_cpy f g 0 0 n j = f j := by
  intro j hj
  rw [pk_cpy_in (Nat.zero_le j) (by omega)]
  congr 1
  omega
