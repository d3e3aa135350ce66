/-! the law's pure rows -/
theorem cd_eq {k a b a2 b2 : Nat} {r q : Int32} (h : a = b) (ha : a ≤ 300) (h1 : (r = 1 ∧ a + k ≤ 300 ∧ a2 = a + k) ∨ (r = 0 ∧ ¬ a + k ≤ 300 ∧ a2 = a)) (h2 : (q = 1 ∧ b + k ≤ 300 ∧ b2 = b + k) ∨ (q = 0 ∧ ¬ b + k ≤ 300 ∧ b2 = b)) : r = q ∧ a2 = b2 ∧ a2 ≤ 300 ∧ b ≤ b2 := by
  rcases h1 with ⟨e1, n1, m1⟩ | ⟨e1, n1, m1⟩ <;> rcases h2 with ⟨e2, n2, m2⟩ | ⟨e2, n2, m2⟩
  · exact ⟨e1.trans e2.symm, by omega, by omega, by omega⟩
  · exfalso; omega
  · exfalso; omega
  · exact ⟨e1.trans e2.symm, by omega, by omega, by omega⟩
theorem RI.code {sz sz2 fx po he de sd : Nat} {en : Int32} {fb fb2 fw fs fba flo fta fbe : Nat → Int32} (h : RI sz fx po he de sd en fb fw fs fba flo fta fbe) (hs : sz ≤ sz2) (h3 : sz2 ≤ 300) (hB : BY fb2) : RI sz2 fx po he de sd en fb2 fw fs fba flo fta fbe :=
  RI.mk h3 hB h.hfx h.hpo h.hhe h.hde h.hsd h.run h.idle h.wa (h.fr.size hs)
theorem RI.obj {sz fx fx2 po he de sd : Nat} {en : Int32} {fb fw fw2 fs fs2 fba flo fta fbe : Nat → Int32} (h : RI sz fx po he de sd en fb fw fs fba flo fta fbe) (hp : (fx2 = fx ∧ fw2 = fw ∧ fs2 = fs) ∨ (fx2 = fx + 1 ∧ fx < 16 ∧ WO fw2 (fx + 1) ∧ fs2 0 = 0 ∧ fs2 1 = 0 ∧ ¬ en = 0)) : RI sz fx2 po he de sd en fb fw2 fs2 fba flo fta fbe := by
  rcases hp with ⟨rfl, rfl, rfl⟩ | ⟨rfl, h16, hO, s0, s1, hen⟩
  · exact h
  · have hpo := h.idle hen
    refine RI.mk h.hsz h.by_ (by omega) h.hpo h.hhe h.hde h.hsd h.run h.idle ⟨hO, fun v h1 h2 => by omega, fun k hk hne => ?_⟩ h.fr
    exfalso
    apply hne
    rcases Nat.lt_or_ge k 1 with z | z
    · obtain rfl : k = 0 := by omega
      exact s0
    · obtain rfl : k = 1 := by omega
      exact s1
theorem RI.world {sz fx po he de sd : Nat} {en : Int32} {fb fw fw2 fs fba flo fta fbe : Nat → Int32} (h : RI sz fx po he de sd en fb fw fs fba flo fta fbe) (hp : WO fw2 fx ∧ ∀ j, 928 ≤ j → fw2 j = fw j) : RI sz fx po he de sd en fb fw2 fs fba flo fta fbe :=
  RI.mk h.hsz h.by_ h.hfx h.hpo h.hhe h.hde h.hsd h.run h.idle (h.wa.zero hp.1 hp.2) h.fr
theorem RI.stop {sz fx po po2 he de sd : Nat} {en en2 : Int32} {fb fw fs fba flo fta fbe : Nat → Int32} (h : RI sz fx po he de sd en fb fw fs fba flo fta fbe) (hp : (en2 = en ∧ po2 = po) ∨ (en2 = 4 ∧ po2 = 0)) : RI sz fx po2 he de sd en2 fb fw fs fba flo fta fbe := by
  rcases hp with ⟨rfl, rfl⟩ | ⟨rfl, rfl⟩
  · exact h
  · exact h.over (by decide)
theorem wo_zero : WO (fun _ => 0) 0 := ⟨⟨fun _ => 0, fun o _ h => absurd (show (0 : Int32) = 1 from h) (by decide)⟩, fun o _ _ => show ¬ (0 : Int32) = 1 by decide⟩
theorem RI.first : RI 0 0 0 0 0 0 (-1) (fun _ => 0) (fun _ => 0) (fun _ => 0) (fun _ => 0) (fun _ => 0) (fun _ => 0) (fun _ => 0) :=
  RI.mk (by omega) (fun j _ => ⟨0, by omega, rfl⟩) (by omega) (by omega) (by omega) (by omega) (by omega) (fun z => absurd z (by decide)) (fun _ => rfl) ⟨wo_zero, fun v h1 h2 => by omega, fun k _ h => absurd rfl h⟩ FR.zero
theorem FXI.first : FXI (fun _ => 0) (fun _ => 0) 0 := ⟨fun _ _ => ⟨0, by omega, rfl⟩, fun _ _ => ⟨0, by omega, rfl⟩, fun i hi => absurd hi (Nat.not_lt_zero i)⟩
theorem PAR.first : PAR (fun _ => -1) := fun _ _ => Or.inl rfl
theorem FI.first : FI (fun _ => 0) (fun _ => 0) (fun _ => 0) (fun _ => 0) := ⟨fun _ _ => Or.inr (show ¬ (0 : Int32) + 3 < 0 by decide), fun _ _ => ⟨0, by omega, rfl⟩, fun _ _ => ⟨0, by omega, rfl⟩⟩
theorem BY.first : BY (fun _ => 0) := fun _ _ => ⟨0, by omega, rfl⟩
theorem law_gt {L j : Nat} (hL : L ≤ 2560) (h : ¬ nI L - 5 < nI (5 * j)) (hj : 5 * j ≤ L) : 5 * j + 5 ≤ L := by
  rw [Int32.lt_iff_toInt_lt, show (5 : Int32) = nI 5 from rfl, pk_sub_toInt (by omega) (by decide), nI_toInt (by omega)] at h
  omega
theorem law_inc (j : Nat) : nI (5 * j) + Int32.ofInt 5 = nI (5 * (j + 1)) := (nI_add (5 * j) 5).trans (by rw [show 5 * j + 5 = 5 * (j + 1) from by omega])
section LJ
variable {p : Program} {l : Launch} {e : Env} {R : Room} {s : State} {m : MethodId} {args : Array Value} {below : List Frame} {meth : Method} {c : Code} {Q : State → Prop} {pc : Nat}
theorem lp_J {I : Nat → Heap → List Loc → Array Slot → Prop} {C0 S0 : Nat} (hmax : ∀ j H locs ls, I j H locs ls → j ≤ 512)
    (step : ∀ j H locs ls, I j H locs ls → (∀ H' locs' ls', I (j + 1) H' locs' ls' → W p l e R s m args below meth c H' locs' (C0 + (j + 1)) (S0 + 6 * (j + 1)) Q (F0 m pc ls' [])) → W p l e R s m args below meth c H locs (C0 + j) (S0 + 6 * j) Q (F0 m pc ls [])) :
    ∀ n j, 513 - j = n → ∀ H locs ls, I j H locs ls → W p l e R s m args below meth c H locs (C0 + j) (S0 + 6 * j) Q (F0 m pc ls []) := by
  intro n
  induction n with
  | zero => intro j hn H locs ls hI; have := hmax j H locs ls hI; omega
  | succ n ih => intro j hn H locs ls hI; exact step j H locs ls hI (fun H' locs' ls' hI' => ih (j + 1) (by omega) H' locs' ls' hI')
end LJ
