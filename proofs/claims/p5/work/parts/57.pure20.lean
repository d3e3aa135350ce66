/-! new rows of references -/
def QL (l : List (Option Nat)) : Nat → Option Nat := fun i => (l[i]?).getD none
theorem ql_none (n : Nat) : (fun _ : Nat => (none : Option Nat)) = QL (List.replicate n none) := by
  funext i
  unfold QL
  by_cases h : i < n
  · rw [List.getElem?_replicate, if_pos h]; rfl
  · rw [List.getElem?_replicate, if_neg h]; rfl
theorem ql_up {l : List (Option Nat)} {i : Int32} {k : Nat} {x : Option Nat} (hk : i.toNatClampNeg = k) (h : k < l.length) : va_up (QL l) i.toNatClampNeg x = QL (l.set k x) := by
  subst hk
  funext j
  unfold va_up QL
  by_cases e : j = i.toNatClampNeg
  · subst e
    rw [if_pos rfl, List.getElem?_set_self h]
    rfl
  · rw [if_neg e, List.getElem?_set_ne (fun z => e z.symm)]
theorem ql_t3 {a b c : Nat} : QL [some a, some b, some c] = T3 a b c := by
  funext i
  match i with
  | 0 => rfl
  | 1 => rfl
  | 2 => rfl
  | n + 3 => unfold QL T3; simp
theorem ql_t2 {a b : Nat} : QL [some a, some b] = T2 a b := by
  funext i
  match i with
  | 0 => rfl
  | 1 => rfl
  | n + 2 => unfold QL T2; simp
def q8 (a b c d e f g h : Nat) : Nat → Nat := fun i => match i with | 0 => a | 1 => b | 2 => c | 3 => d | 4 => e | 5 => f | 6 => g | _ => h
theorem ql_f8 {a b c d e f g h : Nat} : QL [some a, some b, some c, some d, some e, some f, some g, some h] = F8 (q8 a b c d e f g h) := by
  funext i
  match i with
  | 0 => rfl
  | 1 => rfl
  | 2 => rfl
  | 3 => rfl
  | 4 => rfl
  | 5 => rfl
  | 6 => rfl
  | 7 => rfl
  | n + 8 => unfold QL F8; simp
theorem ao_K {C : String} {s : State} (h : va_AO C s) : ∃ cA : ClassId, ArrOfT s cA (.object C) ∧ va_RA s cA (.object C) := by
  obtain ⟨comp, c, k, h1, h2, h3, h4, h5⟩ := Cond.arrayOver_spec h
  exact ⟨c, fun N z => ⟨(fun k h => by cases h), k, h3, comp, h4⟩, k, comp, h3, h4, h1, h5⟩
section NWQ
variable {p : Program} {l : Launch} {e : Env} {R : Room} {s : State} {m : MethodId} {args : Array Value} {below : List Frame} {meth : Method} {c : Code} {H : Heap} {locs : List Loc} {cells slots : Nat} {Q : State → Prop}
variable {pc : Nat} {ls : Array Slot} {rest : List Value} {A : Nat → Prop} {H0 : Heap} {D : va_G} {ws : va_W} {cc : ByteArray} {tys : List (ClassId × FieldType)}
theorem nw_q (hexec : p.tables.exec = Jvm.exec) (hb : c.code = cc) {own C : String} {index : Nat} (hown : s.vm.findClass own = some m.cls) (hclink : (Cond.classLink own index C).before args s = true) (hover : va_AO C s) (hK : va_K D cL tys s) (t0 : Nat) {cQ : ClassId} (ht0 : tys[t0]? = some (cQ, .object C)) (hP : va_P D cL ws H) (hD : va_D A ws) (hS : va_S A H0 H locs) (hA : ∀ q, H0.size ≤ q → A q)
    {n : Int32} {N' : Nat} (hn : ¬ n < 0) (hN : n.toNatClampNeg = N') (hbytes : N' * 4 ≤ 536870912) (hcells : cells + 1 ≤ R.cells) (hslots : slots + N' ≤ R.slots) (hdg : decode cc pc = .ok (.anewarray index, 3))
    (kk : ∀ (q : Nat) (H1 : Heap), va_P D cL (ws ++ [(q, .inl (cQ, N', .inr (.inr (.inr (.inr (QL (List.replicate N' none)))))))]) H1 → va_D A (ws ++ [(q, .inl (cQ, N', .inr (.inr (.inr (.inr (QL (List.replicate N' none)))))))]) → va_S A H0 H1 locs →
      W p l e R s m args below meth c H1 locs (cells + 1) (slots + N') Q (F0 m (pc + 3) ls (.ref q :: rest))) : W p l e R s m args below meth c H locs cells slots Q (F0 m pc ls (.int n :: rest)) := by
  refine va_newq hexec hb hown hclink hover hK hP hD hS hA hn hN hbytes hcells hslots hdg (fun q cA H1 hK1 hP1 hD1 hS1 => ?_)
  obtain ⟨-, -, -, -, -, e1⟩ := (hK.2 t0 _ ht0).2
  obtain ⟨-, -, -, -, -, e2⟩ := (hK1.2 tys.length (cA, .object C) (by rw [List.getElem?_append_right (Nat.le_refl _), Nat.sub_self]; rfl)).2
  obtain rfl : cQ = cA := Option.some.inj (e1.symm.trans e2)
  rw [ql_none N'] at hP1 hD1
  exact kk q H1 hP1 hD1 hS1
end NWQ
