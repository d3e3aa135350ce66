set_option maxHeartbeats 4000000 in
set_option maxRecDepth 100000 in
theorem whole_start {p : Program} {e : Env} {s : State} {m : MethodId} {below : List Frame} {meth : Method} {c : Code} (l : Launch) (hlt : l.stackTraces = false) {b L : Nat} {xs : Nat → Int32} (hL : L ≤ 5) (C0 : lw_At p s m meth c b L xs) : W p l e room_1 s m #[Value.ref b] below meth c s.heap [] 0 0 (lw_Z below #[Value.ref b] s) (entryFrame m ([Value.ref b] : List Value).toArray 7) := by
  obtain ⟨hx, hb, hr, hml, hown, htbl, hX, hbl, hlocks, hgv⟩ := C0
  have hts := AW_tbl htbl
  obtain ⟨D, cI, cZ, cJ, hK⟩ := st_K hts
  have hT := st_T htbl hgv
  have hZ0 := st_Z htbl hgv
  have hbA0 : ¬ s.heap.size ≤ b := Nat.not_le.mpr hbl
  obtain ⟨A, hAe⟩ : ∃ A : Nat → Prop, A = fun q => s.heap.size ≤ q := ⟨_, rfl⟩
  have hZ : vt_ZZ A s s.heap := by rw [hAe]; exact hZ0
  have hbA : ¬ A b := by rw [hAe]; exact hbA0
  have hA : ∀ q, s.heap.size ≤ q → A q := fun q h => by rw [hAe]; exact h
  have hA2 : ∀ q, A q → s.heap.size ≤ q := fun q h => by rw [hAe] at h; exact h
  clear hAe
  have hP : va_P D cL [] s.heap := va_nil
  have hD : va_D A [] := ⟨fun i j x y hi => by simp at hi, fun k q hk => by simp at hk⟩
  have hS : va_S A s.heap s.heap [] := va_S.rf
  have hl := lv_entry ([.ref b]) (n := 7) (Nat.le_of_ble_eq_true rfl)
  rw [lg_entry_eq]
  generalize (lg_sl ([.ref b]) ++ List.replicate (7 - (lg_sl ([.ref b])).length) Slot.unset).toArray = ls at hl ⊢
  have hl : lv_has ls 7 [(0, .ref b)] := hl
  refine va_new (ci := 7) (fs := [.null, .null, .null, .null]) (C := "TaleMachine") (T := F_TM) (N := 4) hx hb hts in_TM t_TM t_TM_ok hown (hts _ k_409) (hts _ k_410) (hts _ k_192) hK hP hD hS hA rfl dv_TM (Nat.le_of_ble_eq_true rfl) (Nat.le_of_ble_eq_true rfl) d_Law_law_0 (fun q1 H hP hD hS => ?_)
  have hP : va_P D cL [(q1, .inr (7, [.null, .null, .null, .null]))] H := hP
  have hD : va_D A [(q1, .inr (7, [.null, .null, .null, .null]))] := hD
  refine W.widen (k := 1) (n := 4) (Nat.le_of_ble_eq_true rfl) (Nat.le_of_ble_eq_true rfl) ?_
  refine lv_dup hx hb d_Law_law_3 rfl ?_
  refine mv_v (va_runI (As := []) (rest := [.ref q1]) ⟨hx, hb, hml, hown, hts⟩ (c_TM_init l D cI cZ cJ q1 _ ) (cwI 0 hts (gIn k_411) rfl rfl rfl (hts _ k_192) (hts _ k_412) (hts _ k_413) rfl (by decide +kernel) ⟨Nat.le_of_ble_eq_true rfl, Nat.le_of_ble_eq_true rfl⟩) (pre_S (hP.sub [0] rfl) (hK.sub [0, 1, 2] rfl) (hD.sub [0] (by decide) rfl) hT) rfl rfl hl.1 rfl (lv_room (Nat.le_of_ble_eq_true rfl)) d_Law_law_4 ⟨Nat.le_of_ble_eq_true rfl, Nat.le_of_ble_eq_true rfl⟩) hP hD hS hA [0] [] rfl rfl (by decide) (by decide) (wr := []) (wn := fun u => match u with | (sc, by_, wo, st, fl, fn, li, rc, kd, it, pa, hi, pt, sv, iz, te, fr, va, sa, re, vk, vi, sk, si, rk, ri) => [(q1, .inr (7, [.ref sc, .ref wo, .ref hi, .ref te])), (sc, .inr (2, [.ref by_, .int 0])), (by_, .inl (cI, 300, .inl (fun _ => 0))), (wo, .inr (6, [.ref st, .int 0, .ref fl, .ref fn, .ref li, .int 0, .ref rc, .int 0, .int 0])), (st, .inr (3, [.ref kd, .ref it, .ref pa])), (pa, .inl (cI, 16, .inl (fun _ => -1))), (fl, .inl (cI, 256, .inl (fun _ => 0))), (fn, .inl (cI, 16, .inl (fun _ => 0))), (hi, .inr (1, [.ref pt, .ref sv, .ref iz, .int 0])), (iz, .inl (cZ, 2, .inl (fun _ => 0))), (te, .inr (4, [.ref sc, .ref wo, .ref hi, .ref fr, .ref va, .ref sa, .ref re, .int 0, .int (-1)])), (va, .inr (5, [.ref vk, .ref vi, .int 0])), (sa, .inr (5, [.ref sk, .ref si, .int 0])), (re, .inr (5, [.ref rk, .ref ri, .int 0]))]) (fun _ _ h9 => h9) (fun u H locs hp29 hP hD hS => ?_)
  obtain ⟨a2, a3, a4, a5, a6, a7, a8, a9, a10, a11, a12, a13, a14, a15, a16, a17, a18, a19, a20, a21, a22, a23, a24, a25, a26, a27⟩ := u
  have hP : va_P D cL [(q1, .inr (7, [.ref a2, .ref a4, .ref a13, .ref a17])), (a2, .inr (2, [.ref a3, .int 0])), (a3, .inl (cI, 300, .inl (fun _ => 0))), (a4, .inr (6, [.ref a5, .int 0, .ref a6, .ref a7, .ref a8, .int 0, .ref a9, .int 0, .int 0])), (a5, .inr (3, [.ref a10, .ref a11, .ref a12])), (a12, .inl (cI, 16, .inl (fun _ => -1))), (a6, .inl (cI, 256, .inl (fun _ => 0))), (a7, .inl (cI, 16, .inl (fun _ => 0))), (a13, .inr (1, [.ref a14, .ref a15, .ref a16, .int 0])), (a16, .inl (cZ, 2, .inl (fun _ => 0))), (a17, .inr (4, [.ref a2, .ref a4, .ref a13, .ref a18, .ref a19, .ref a20, .ref a21, .int 0, .int (-1)])), (a19, .inr (5, [.ref a22, .ref a23, .int 0])), (a20, .inr (5, [.ref a24, .ref a25, .int 0])), (a21, .inr (5, [.ref a26, .ref a27, .int 0]))] H := hP
  have hD : va_D A [(q1, .inr (7, [.ref a2, .ref a4, .ref a13, .ref a17])), (a2, .inr (2, [.ref a3, .int 0])), (a3, .inl (cI, 300, .inl (fun _ => 0))), (a4, .inr (6, [.ref a5, .int 0, .ref a6, .ref a7, .ref a8, .int 0, .ref a9, .int 0, .int 0])), (a5, .inr (3, [.ref a10, .ref a11, .ref a12])), (a12, .inl (cI, 16, .inl (fun _ => -1))), (a6, .inl (cI, 256, .inl (fun _ => 0))), (a7, .inl (cI, 16, .inl (fun _ => 0))), (a13, .inr (1, [.ref a14, .ref a15, .ref a16, .int 0])), (a16, .inl (cZ, 2, .inl (fun _ => 0))), (a17, .inr (4, [.ref a2, .ref a4, .ref a13, .ref a18, .ref a19, .ref a20, .ref a21, .int 0, .int (-1)])), (a19, .inr (5, [.ref a22, .ref a23, .int 0])), (a20, .inr (5, [.ref a24, .ref a25, .int 0])), (a21, .inr (5, [.ref a26, .ref a27, .int 0]))] := hD
  refine W.widen (k := 55) (n := 4120) (Nat.le_of_ble_eq_true rfl) (Nat.le_of_ble_eq_true rfl) ?_
  refine lv_astore_n (lv' := [(1, .ref q1), (0, .ref b)]) hx hb d_Law_law_7 rfl hl (by decide) rfl (fun ls hl => ?_)
  refine va_new (ci := 8) (fs := [.int 0, .null, .int 0, .null, .int 0, .int 0, .null, .int 0, .null, .null, .null, .null, .int 0, .null, .null, .int 0, .null, .null, .null, .null, .null, .null, .null, .null, .null, .int 0, .null, .null, .int 0, .int 0, .int 0]) (C := "TaleMachineModel") (T := F_Model) (N := 31) hx hb hts in_Model t_Model t_Model_ok hown (hts _ k_414) (hts _ k_415) (hts _ k_4) hK hP hD hS hA rfl dv_Model (Nat.le_of_ble_eq_true rfl) (Nat.le_of_ble_eq_true rfl) d_Law_law_8 (fun q30 H hP hD hS => ?_)
  have hP : va_P D cL [(q1, .inr (7, [.ref a2, .ref a4, .ref a13, .ref a17])), (a2, .inr (2, [.ref a3, .int 0])), (a3, .inl (cI, 300, .inl (fun _ => 0))), (a4, .inr (6, [.ref a5, .int 0, .ref a6, .ref a7, .ref a8, .int 0, .ref a9, .int 0, .int 0])), (a5, .inr (3, [.ref a10, .ref a11, .ref a12])), (a12, .inl (cI, 16, .inl (fun _ => -1))), (a6, .inl (cI, 256, .inl (fun _ => 0))), (a7, .inl (cI, 16, .inl (fun _ => 0))), (a13, .inr (1, [.ref a14, .ref a15, .ref a16, .int 0])), (a16, .inl (cZ, 2, .inl (fun _ => 0))), (a17, .inr (4, [.ref a2, .ref a4, .ref a13, .ref a18, .ref a19, .ref a20, .ref a21, .int 0, .int (-1)])), (a19, .inr (5, [.ref a22, .ref a23, .int 0])), (a20, .inr (5, [.ref a24, .ref a25, .int 0])), (a21, .inr (5, [.ref a26, .ref a27, .int 0])), (q30, .inr (8, [.int 0, .null, .int 0, .null, .int 0, .int 0, .null, .int 0, .null, .null, .null, .null, .int 0, .null, .null, .int 0, .null, .null, .null, .null, .null, .null, .null, .null, .null, .int 0, .null, .null, .int 0, .int 0, .int 0]))] H := hP
  have hD : va_D A [(q1, .inr (7, [.ref a2, .ref a4, .ref a13, .ref a17])), (a2, .inr (2, [.ref a3, .int 0])), (a3, .inl (cI, 300, .inl (fun _ => 0))), (a4, .inr (6, [.ref a5, .int 0, .ref a6, .ref a7, .ref a8, .int 0, .ref a9, .int 0, .int 0])), (a5, .inr (3, [.ref a10, .ref a11, .ref a12])), (a12, .inl (cI, 16, .inl (fun _ => -1))), (a6, .inl (cI, 256, .inl (fun _ => 0))), (a7, .inl (cI, 16, .inl (fun _ => 0))), (a13, .inr (1, [.ref a14, .ref a15, .ref a16, .int 0])), (a16, .inl (cZ, 2, .inl (fun _ => 0))), (a17, .inr (4, [.ref a2, .ref a4, .ref a13, .ref a18, .ref a19, .ref a20, .ref a21, .int 0, .int (-1)])), (a19, .inr (5, [.ref a22, .ref a23, .int 0])), (a20, .inr (5, [.ref a24, .ref a25, .int 0])), (a21, .inr (5, [.ref a26, .ref a27, .int 0])), (q30, .inr (8, [.int 0, .null, .int 0, .null, .int 0, .int 0, .null, .int 0, .null, .null, .null, .null, .int 0, .null, .null, .int 0, .null, .null, .null, .null, .null, .null, .null, .null, .null, .int 0, .null, .null, .int 0, .int 0, .int 0]))] := hD
  refine W.widen (k := 56) (n := 4151) (Nat.le_of_ble_eq_true rfl) (Nat.le_of_ble_eq_true rfl) ?_
  refine lv_dup hx hb d_Law_law_11 rfl ?_
  refine mv_v (va_runI (As := []) (rest := [.ref q30]) ⟨hx, hb, hml, hown, hts⟩ (c_Model_init l D cI cZ cJ q30 _ ) (cwI 0 hts (gIn k_416) rfl rfl rfl (hts _ k_4) (hts _ k_417) (hts _ k_418) rfl (by decide +kernel) ⟨Nat.le_of_ble_eq_true rfl, Nat.le_of_ble_eq_true rfl⟩) (pre_S (hP.sub [14] rfl) (hK.sub [0, 1, 2] rfl) (hD.sub [14] (by decide) rfl) hT) rfl rfl hl.1 rfl (lv_room (Nat.le_of_ble_eq_true rfl)) d_Law_law_12 ⟨Nat.le_of_ble_eq_true rfl, Nat.le_of_ble_eq_true rfl⟩) hP hD hS hA [14] [0, 1, 2, 3, 4, 5, 6, 7, 8, 9, 10, 11, 12, 13] rfl rfl (by decide) (by decide) (wr := [(q1, .inr (7, [.ref a2, .ref a4, .ref a13, .ref a17])), (a2, .inr (2, [.ref a3, .int 0])), (a3, .inl (cI, 300, .inl (fun _ => 0))), (a4, .inr (6, [.ref a5, .int 0, .ref a6, .ref a7, .ref a8, .int 0, .ref a9, .int 0, .int 0])), (a5, .inr (3, [.ref a10, .ref a11, .ref a12])), (a12, .inl (cI, 16, .inl (fun _ => -1))), (a6, .inl (cI, 256, .inl (fun _ => 0))), (a7, .inl (cI, 16, .inl (fun _ => 0))), (a13, .inr (1, [.ref a14, .ref a15, .ref a16, .int 0])), (a16, .inl (cZ, 2, .inl (fun _ => 0))), (a17, .inr (4, [.ref a2, .ref a4, .ref a13, .ref a18, .ref a19, .ref a20, .ref a21, .int 0, .int (-1)])), (a19, .inr (5, [.ref a22, .ref a23, .int 0])), (a20, .inr (5, [.ref a24, .ref a25, .int 0])), (a21, .inr (5, [.ref a26, .ref a27, .int 0]))]) (wn := fun u => match u with | (m_bytes, m_w, m_saved, m_line, m_met, m_waiting, m_nextParent, m_kind, m_number, m_begin, m_table, m_handlers, m_base, m_locals, m_self, m_found, m_place, m_next, m_saidKind, m_saidNumber) => [(q30, .inr (8, [.int 0, .ref m_bytes, .int 0, .ref m_w, .int 0, .int 0, .ref m_saved, .int 0, .ref m_line, .ref m_met, .ref m_waiting, .ref m_nextParent, .int 0, .ref m_kind, .ref m_number, .int 0, .ref m_begin, .ref m_table, .ref m_handlers, .ref m_base, .ref m_locals, .ref m_self, .ref m_found, .ref m_place, .ref m_next, .int 0, .ref m_saidKind, .ref m_saidNumber, .int 0, .int 0, .int (-1)])), (m_bytes, .inl (cI, 300, .inl (fun _ => 0))), (m_w, .inl (cI, 5568, .inl (fun _ => 0))), (m_saved, .inl (cZ, 2, .inl (fun _ => 0)))]) (fun _ _ h9 => h9) (fun u H locs hp52 hP hD hS => ?_)
  obtain ⟨a31, a32, a33, a34, a35, a36, a37, a38, a39, a40, a41, a42, a43, a44, a45, a46, a47, a48, a49, a50⟩ := u
  have hP : va_P D cL [(q1, .inr (7, [.ref a2, .ref a4, .ref a13, .ref a17])), (a2, .inr (2, [.ref a3, .int 0])), (a3, .inl (cI, 300, .inl (fun _ => 0))), (a4, .inr (6, [.ref a5, .int 0, .ref a6, .ref a7, .ref a8, .int 0, .ref a9, .int 0, .int 0])), (a5, .inr (3, [.ref a10, .ref a11, .ref a12])), (a12, .inl (cI, 16, .inl (fun _ => -1))), (a6, .inl (cI, 256, .inl (fun _ => 0))), (a7, .inl (cI, 16, .inl (fun _ => 0))), (a13, .inr (1, [.ref a14, .ref a15, .ref a16, .int 0])), (a16, .inl (cZ, 2, .inl (fun _ => 0))), (a17, .inr (4, [.ref a2, .ref a4, .ref a13, .ref a18, .ref a19, .ref a20, .ref a21, .int 0, .int (-1)])), (a19, .inr (5, [.ref a22, .ref a23, .int 0])), (a20, .inr (5, [.ref a24, .ref a25, .int 0])), (a21, .inr (5, [.ref a26, .ref a27, .int 0])), (q30, .inr (8, [.int 0, .ref a31, .int 0, .ref a32, .int 0, .int 0, .ref a33, .int 0, .ref a34, .ref a35, .ref a36, .ref a37, .int 0, .ref a38, .ref a39, .int 0, .ref a40, .ref a41, .ref a42, .ref a43, .ref a44, .ref a45, .ref a46, .ref a47, .ref a48, .int 0, .ref a49, .ref a50, .int 0, .int 0, .int (-1)])), (a31, .inl (cI, 300, .inl (fun _ => 0))), (a32, .inl (cI, 5568, .inl (fun _ => 0))), (a33, .inl (cZ, 2, .inl (fun _ => 0)))] H := hP
  have hD : va_D A [(q1, .inr (7, [.ref a2, .ref a4, .ref a13, .ref a17])), (a2, .inr (2, [.ref a3, .int 0])), (a3, .inl (cI, 300, .inl (fun _ => 0))), (a4, .inr (6, [.ref a5, .int 0, .ref a6, .ref a7, .ref a8, .int 0, .ref a9, .int 0, .int 0])), (a5, .inr (3, [.ref a10, .ref a11, .ref a12])), (a12, .inl (cI, 16, .inl (fun _ => -1))), (a6, .inl (cI, 256, .inl (fun _ => 0))), (a7, .inl (cI, 16, .inl (fun _ => 0))), (a13, .inr (1, [.ref a14, .ref a15, .ref a16, .int 0])), (a16, .inl (cZ, 2, .inl (fun _ => 0))), (a17, .inr (4, [.ref a2, .ref a4, .ref a13, .ref a18, .ref a19, .ref a20, .ref a21, .int 0, .int (-1)])), (a19, .inr (5, [.ref a22, .ref a23, .int 0])), (a20, .inr (5, [.ref a24, .ref a25, .int 0])), (a21, .inr (5, [.ref a26, .ref a27, .int 0])), (q30, .inr (8, [.int 0, .ref a31, .int 0, .ref a32, .int 0, .int 0, .ref a33, .int 0, .ref a34, .ref a35, .ref a36, .ref a37, .int 0, .ref a38, .ref a39, .int 0, .ref a40, .ref a41, .ref a42, .ref a43, .ref a44, .ref a45, .ref a46, .ref a47, .ref a48, .int 0, .ref a49, .ref a50, .int 0, .int 0, .int (-1)])), (a31, .inl (cI, 300, .inl (fun _ => 0))), (a32, .inl (cI, 5568, .inl (fun _ => 0))), (a33, .inl (cZ, 2, .inl (fun _ => 0)))] := hD
  refine W.widen (k := 76) (n := 10417) (Nat.le_of_ble_eq_true rfl) (Nat.le_of_ble_eq_true rfl) ?_
  refine lv_astore_n (lv' := [(2, .ref q30), (1, .ref q1), (0, .ref b)]) hx hb d_Law_law_15 rfl hl (by decide) rfl (fun ls hl => ?_)
  refine lv_iconst (v := 1) hx hb d_Law_law_16 (by decide) ?_
  refine nw_l hx hb (hts _ k_419) hK 2 rfl hP hD hS hA (n := 1) (N' := 1) (by decide) (by decide) (by decide) (Nat.le_of_ble_eq_true rfl) (Nat.le_of_ble_eq_true rfl) d_Law_law_17 (fun q53 H hP hD hS => ?_)
  have hP : va_P D cL [(q1, .inr (7, [.ref a2, .ref a4, .ref a13, .ref a17])), (a2, .inr (2, [.ref a3, .int 0])), (a3, .inl (cI, 300, .inl (fun _ => 0))), (a4, .inr (6, [.ref a5, .int 0, .ref a6, .ref a7, .ref a8, .int 0, .ref a9, .int 0, .int 0])), (a5, .inr (3, [.ref a10, .ref a11, .ref a12])), (a12, .inl (cI, 16, .inl (fun _ => -1))), (a6, .inl (cI, 256, .inl (fun _ => 0))), (a7, .inl (cI, 16, .inl (fun _ => 0))), (a13, .inr (1, [.ref a14, .ref a15, .ref a16, .int 0])), (a16, .inl (cZ, 2, .inl (fun _ => 0))), (a17, .inr (4, [.ref a2, .ref a4, .ref a13, .ref a18, .ref a19, .ref a20, .ref a21, .int 0, .int (-1)])), (a19, .inr (5, [.ref a22, .ref a23, .int 0])), (a20, .inr (5, [.ref a24, .ref a25, .int 0])), (a21, .inr (5, [.ref a26, .ref a27, .int 0])), (q30, .inr (8, [.int 0, .ref a31, .int 0, .ref a32, .int 0, .int 0, .ref a33, .int 0, .ref a34, .ref a35, .ref a36, .ref a37, .int 0, .ref a38, .ref a39, .int 0, .ref a40, .ref a41, .ref a42, .ref a43, .ref a44, .ref a45, .ref a46, .ref a47, .ref a48, .int 0, .ref a49, .ref a50, .int 0, .int 0, .int (-1)])), (a31, .inl (cI, 300, .inl (fun _ => 0))), (a32, .inl (cI, 5568, .inl (fun _ => 0))), (a33, .inl (cZ, 2, .inl (fun _ => 0))), (q53, .inl (cJ, 1, .inr (.inl (fun _ => 0))))] H := hP
  have hD : va_D A [(q1, .inr (7, [.ref a2, .ref a4, .ref a13, .ref a17])), (a2, .inr (2, [.ref a3, .int 0])), (a3, .inl (cI, 300, .inl (fun _ => 0))), (a4, .inr (6, [.ref a5, .int 0, .ref a6, .ref a7, .ref a8, .int 0, .ref a9, .int 0, .int 0])), (a5, .inr (3, [.ref a10, .ref a11, .ref a12])), (a12, .inl (cI, 16, .inl (fun _ => -1))), (a6, .inl (cI, 256, .inl (fun _ => 0))), (a7, .inl (cI, 16, .inl (fun _ => 0))), (a13, .inr (1, [.ref a14, .ref a15, .ref a16, .int 0])), (a16, .inl (cZ, 2, .inl (fun _ => 0))), (a17, .inr (4, [.ref a2, .ref a4, .ref a13, .ref a18, .ref a19, .ref a20, .ref a21, .int 0, .int (-1)])), (a19, .inr (5, [.ref a22, .ref a23, .int 0])), (a20, .inr (5, [.ref a24, .ref a25, .int 0])), (a21, .inr (5, [.ref a26, .ref a27, .int 0])), (q30, .inr (8, [.int 0, .ref a31, .int 0, .ref a32, .int 0, .int 0, .ref a33, .int 0, .ref a34, .ref a35, .ref a36, .ref a37, .int 0, .ref a38, .ref a39, .int 0, .ref a40, .ref a41, .ref a42, .ref a43, .ref a44, .ref a45, .ref a46, .ref a47, .ref a48, .int 0, .ref a49, .ref a50, .int 0, .int 0, .int (-1)])), (a31, .inl (cI, 300, .inl (fun _ => 0))), (a32, .inl (cI, 5568, .inl (fun _ => 0))), (a33, .inl (cZ, 2, .inl (fun _ => 0))), (q53, .inl (cJ, 1, .inr (.inl (fun _ => 0))))] := hD
  refine W.widen (k := 77) (n := 10418) (Nat.le_of_ble_eq_true rfl) (Nat.le_of_ble_eq_true rfl) ?_
  refine lv_astore_n (lv' := [(3, .ref q53), (2, .ref q30), (1, .ref q1), (0, .ref b)]) hx hb d_Law_law_19 rfl hl (by decide) rfl (fun ls hl => ?_)
  refine lv_iconst (v := 0) hx hb d_Law_law_20 (by decide) ?_
  refine lv_istore (lv' := [(4, .int 0), (3, .ref q53), (2, .ref q30), (1, .ref q1), (0, .ref b)]) hx hb d_Law_law_21 hl (by decide) rfl (fun ls hl => ?_)
  have hP := hP.sub (ws' := [(q1, .inr (7, [.ref a2, .ref a4, .ref a13, .ref a17])), (a2, .inr (2, [.ref a3, .int 0])), (a3, .inl (cI, 300, .inl (fun _ => 0))), (a4, .inr (6, [.ref a5, .int 0, .ref a6, .ref a7, .ref a8, .int 0, .ref a9, .int 0, .int 0])), (a5, .inr (3, [.ref a10, .ref a11, .ref a12])), (a12, .inl (cI, 16, .inl (fun _ => -1))), (a6, .inl (cI, 256, .inl (fun _ => 0))), (a7, .inl (cI, 16, .inl (fun _ => 0))), (a13, .inr (1, [.ref a14, .ref a15, .ref a16, .int 0])), (a16, .inl (cZ, 2, .inl (fun _ => 0))), (a17, .inr (4, [.ref a2, .ref a4, .ref a13, .ref a18, .ref a19, .ref a20, .ref a21, .int 0, .int (-1)])), (a19, .inr (5, [.ref a22, .ref a23, .int 0])), (a20, .inr (5, [.ref a24, .ref a25, .int 0])), (a21, .inr (5, [.ref a26, .ref a27, .int 0])), (q30, .inr (8, [.int 0, .ref a31, .int 0, .ref a32, .int 0, .int 0, .ref a33, .int 0, .ref a34, .ref a35, .ref a36, .ref a37, .int 0, .ref a38, .ref a39, .int 0, .ref a40, .ref a41, .ref a42, .ref a43, .ref a44, .ref a45, .ref a46, .ref a47, .ref a48, .int 0, .ref a49, .ref a50, .int 0, .int 0, .int (-1)])), (a31, .inl (cI, 300, .inl (fun _ => 0))), (a32, .inl (cI, 5568, .inl (fun _ => 0))), (a33, .inl (cZ, 2, .inl (fun _ => 0))), (q53, .inl (cJ, 1, .inr (.inl (fun _ => 0))))]) [0, 1, 2, 3, 4, 5, 6, 7, 8, 9, 10, 11, 12, 13, 14, 15, 16, 17, 18] rfl
  have hD := hD.sub (ws' := [(q1, .inr (7, [.ref a2, .ref a4, .ref a13, .ref a17])), (a2, .inr (2, [.ref a3, .int 0])), (a3, .inl (cI, 300, .inl (fun _ => 0))), (a4, .inr (6, [.ref a5, .int 0, .ref a6, .ref a7, .ref a8, .int 0, .ref a9, .int 0, .int 0])), (a5, .inr (3, [.ref a10, .ref a11, .ref a12])), (a12, .inl (cI, 16, .inl (fun _ => -1))), (a6, .inl (cI, 256, .inl (fun _ => 0))), (a7, .inl (cI, 16, .inl (fun _ => 0))), (a13, .inr (1, [.ref a14, .ref a15, .ref a16, .int 0])), (a16, .inl (cZ, 2, .inl (fun _ => 0))), (a17, .inr (4, [.ref a2, .ref a4, .ref a13, .ref a18, .ref a19, .ref a20, .ref a21, .int 0, .int (-1)])), (a19, .inr (5, [.ref a22, .ref a23, .int 0])), (a20, .inr (5, [.ref a24, .ref a25, .int 0])), (a21, .inr (5, [.ref a26, .ref a27, .int 0])), (q30, .inr (8, [.int 0, .ref a31, .int 0, .ref a32, .int 0, .int 0, .ref a33, .int 0, .ref a34, .ref a35, .ref a36, .ref a37, .int 0, .ref a38, .ref a39, .int 0, .ref a40, .ref a41, .ref a42, .ref a43, .ref a44, .ref a45, .ref a46, .ref a47, .ref a48, .int 0, .ref a49, .ref a50, .int 0, .int 0, .int (-1)])), (a31, .inl (cI, 300, .inl (fun _ => 0))), (a32, .inl (cI, 5568, .inl (fun _ => 0))), (a33, .inl (cZ, 2, .inl (fun _ => 0))), (q53, .inl (cJ, 1, .inr (.inl (fun _ => 0))))]) [0, 1, 2, 3, 4, 5, 6, 7, 8, 9, 10, 11, 12, 13, 14, 15, 16, 17, 18] (by decide) rfl
  have hl := lv_sub (l' := [(4, .int 0), (3, .ref q53), (2, .ref q30), (1, .ref q1), (0, .ref b)]) hl [0, 1, 2, 3, 4] rfl
  have hLc : L = 0 ∨ L = 1 ∨ L = 2 ∨ L = 3 ∨ L = 4 ∨ L = 5 := by omega
  rcases hLc with rfl | rfl | rfl | rfl | rfl | rfl
  · refine lv_iload hx hb d_Law_law_23 (lv_at hl 0 rfl) ?_
    refine lv_aload_n hx hb d_Law_law_25 rfl (lv_at hl 4 rfl) ?_
    refine va_slen hx hb hX hbl hbA hS d_Law_law_26 ?_
    refine lv_topi (fun z501 hz501 => ?_)
    obtain rfl : z501 = 0 := hz501.trans (by decide)
    refine lv_iconst (v := 5) hx hb d_Law_law_27 (by decide) ?_
    refine lv_isub hx hb d_Law_law_28 ?_
    refine lv_topi (fun z502 hz502 => ?_)
    obtain rfl : z502 = (-5) := hz502.trans (by decide)
    refine lv_icmp_gt hx hb d_Law_law_29 (tgt := 703) (by decide) (fun _ => ?_) (fun hz => absurd (by decide) hz)
    refine lv_iconst (v := 1) hx hb d_Law_law_703 (by decide) ?_
    refine va_forget (fun q9 h9 => hA2 _ (hS.2.2 q9 h9)) ?_
    refine W.widen (k := 600002) (n := 7302232) (Nat.le_of_ble_eq_true rfl) (Nat.le_of_ble_eq_true rfl) ?_
    exact lw_ret hx hb hr hlocks d_Law_law_704
  · refine lv_iload hx hb d_Law_law_23 (lv_at hl 0 rfl) ?_
    refine lv_aload_n hx hb d_Law_law_25 rfl (lv_at hl 4 rfl) ?_
    refine va_slen hx hb hX hbl hbA hS d_Law_law_26 ?_
    refine lv_topi (fun z511 hz511 => ?_)
    obtain rfl : z511 = 1 := hz511.trans (by decide)
    refine lv_iconst (v := 5) hx hb d_Law_law_27 (by decide) ?_
    refine lv_isub hx hb d_Law_law_28 ?_
    refine lv_topi (fun z512 hz512 => ?_)
    obtain rfl : z512 = (-4) := hz512.trans (by decide)
    refine lv_icmp_gt hx hb d_Law_law_29 (tgt := 703) (by decide) (fun _ => ?_) (fun hz => absurd (by decide) hz)
    refine lv_iconst (v := 1) hx hb d_Law_law_703 (by decide) ?_
    refine va_forget (fun q9 h9 => hA2 _ (hS.2.2 q9 h9)) ?_
    refine W.widen (k := 600002) (n := 7302232) (Nat.le_of_ble_eq_true rfl) (Nat.le_of_ble_eq_true rfl) ?_
    exact lw_ret hx hb hr hlocks d_Law_law_704
  · refine lv_iload hx hb d_Law_law_23 (lv_at hl 0 rfl) ?_
    refine lv_aload_n hx hb d_Law_law_25 rfl (lv_at hl 4 rfl) ?_
    refine va_slen hx hb hX hbl hbA hS d_Law_law_26 ?_
    refine lv_topi (fun z521 hz521 => ?_)
    obtain rfl : z521 = 2 := hz521.trans (by decide)
    refine lv_iconst (v := 5) hx hb d_Law_law_27 (by decide) ?_
    refine lv_isub hx hb d_Law_law_28 ?_
    refine lv_topi (fun z522 hz522 => ?_)
    obtain rfl : z522 = (-3) := hz522.trans (by decide)
    refine lv_icmp_gt hx hb d_Law_law_29 (tgt := 703) (by decide) (fun _ => ?_) (fun hz => absurd (by decide) hz)
    refine lv_iconst (v := 1) hx hb d_Law_law_703 (by decide) ?_
    refine va_forget (fun q9 h9 => hA2 _ (hS.2.2 q9 h9)) ?_
    refine W.widen (k := 600002) (n := 7302232) (Nat.le_of_ble_eq_true rfl) (Nat.le_of_ble_eq_true rfl) ?_
    exact lw_ret hx hb hr hlocks d_Law_law_704
  · refine lv_iload hx hb d_Law_law_23 (lv_at hl 0 rfl) ?_
    refine lv_aload_n hx hb d_Law_law_25 rfl (lv_at hl 4 rfl) ?_
    refine va_slen hx hb hX hbl hbA hS d_Law_law_26 ?_
    refine lv_topi (fun z531 hz531 => ?_)
    obtain rfl : z531 = 3 := hz531.trans (by decide)
    refine lv_iconst (v := 5) hx hb d_Law_law_27 (by decide) ?_
    refine lv_isub hx hb d_Law_law_28 ?_
    refine lv_topi (fun z532 hz532 => ?_)
    obtain rfl : z532 = (-2) := hz532.trans (by decide)
    refine lv_icmp_gt hx hb d_Law_law_29 (tgt := 703) (by decide) (fun _ => ?_) (fun hz => absurd (by decide) hz)
    refine lv_iconst (v := 1) hx hb d_Law_law_703 (by decide) ?_
    refine va_forget (fun q9 h9 => hA2 _ (hS.2.2 q9 h9)) ?_
    refine W.widen (k := 600002) (n := 7302232) (Nat.le_of_ble_eq_true rfl) (Nat.le_of_ble_eq_true rfl) ?_
    exact lw_ret hx hb hr hlocks d_Law_law_704
  · refine lv_iload hx hb d_Law_law_23 (lv_at hl 0 rfl) ?_
    refine lv_aload_n hx hb d_Law_law_25 rfl (lv_at hl 4 rfl) ?_
    refine va_slen hx hb hX hbl hbA hS d_Law_law_26 ?_
    refine lv_topi (fun z541 hz541 => ?_)
    obtain rfl : z541 = 4 := hz541.trans (by decide)
    refine lv_iconst (v := 5) hx hb d_Law_law_27 (by decide) ?_
    refine lv_isub hx hb d_Law_law_28 ?_
    refine lv_topi (fun z542 hz542 => ?_)
    obtain rfl : z542 = (-1) := hz542.trans (by decide)
    refine lv_icmp_gt hx hb d_Law_law_29 (tgt := 703) (by decide) (fun _ => ?_) (fun hz => absurd (by decide) hz)
    refine lv_iconst (v := 1) hx hb d_Law_law_703 (by decide) ?_
    refine va_forget (fun q9 h9 => hA2 _ (hS.2.2 q9 h9)) ?_
    refine W.widen (k := 600002) (n := 7302232) (Nat.le_of_ble_eq_true rfl) (Nat.le_of_ble_eq_true rfl) ?_
    exact lw_ret hx hb hr hlocks d_Law_law_704
  · refine lv_iload hx hb d_Law_law_23 (lv_at hl 0 rfl) ?_
    refine lv_aload_n hx hb d_Law_law_25 rfl (lv_at hl 4 rfl) ?_
    refine va_slen hx hb hX hbl hbA hS d_Law_law_26 ?_
    refine lv_topi (fun z901 hz901 => ?_)
    obtain rfl : z901 = 5 := hz901.trans (by decide)
    refine lv_iconst (v := 5) hx hb d_Law_law_27 (by decide) ?_
    refine lv_isub hx hb d_Law_law_28 ?_
    refine lv_topi (fun z902 hz902 => ?_)
    obtain rfl : z902 = 0 := hz902.trans (by decide)
    refine lv_icmp_gt hx hb d_Law_law_29 (tgt := 703) (by decide) (fun hz => absurd hz (by decide)) (fun _ => ?_)
    refine lv_aload_n hx hb d_Law_law_32 rfl (lv_at hl 4 rfl) ?_
    refine lv_iload hx hb d_Law_law_33 (lv_at hl 0 rfl) ?_
    refine va_sld hx hb hX hbl hbA hS (i := 0) (in_c (by decide)) d_Law_law_35 ?_
    refine lv_topi (fun z903 hz903 => ?_)
    obtain rfl : z903 = xs 0 := hz903.trans (congrArg xs (by decide))
    refine lv_bipush (v := 15) hx hb d_Law_law_36 (by decide) ?_
    refine lv_iand hx hb d_Law_law_38 ?_
    refine lv_topi (fun z904 hz904 => ?_)
    obtain ⟨j, hj, hje⟩ := pk_andE (xs 0) (m := 15) 4 (by decide)
    have hjc : j = 0 ∨ j = 1 ∨ j = 2 ∨ j = 3 ∨ j = 4 ∨ j = 5 ∨ j = 6 ∨ j = 7 ∨ j = 8 ∨ j = 9 ∨ j = 10 ∨ j = 11 ∨ j = 12 ∨ j = 13 ∨ j = 14 ∨ j = 15 := by omega
    rcases hjc with rfl | rfl | rfl | rfl | rfl | rfl | rfl | rfl | rfl | rfl | rfl | rfl | rfl | rfl | rfl | rfl
    · obtain rfl : z904 = 0 := hz904.trans (hje.trans (by decide))
      refine lv_tableIn hx hb d_Law_law_39 (x := 0) (off := 61) (tgt := 100) (by decide) (by decide) rfl (by decide) ?_
      rcases sp_code (xs 2) with h | h | h | h | h | h
      · exact lc_code_lo l hlt D cI cZ cJ q1 a2 a3 a4 a5 a6 a7 a8 a9 a10 a11 a12 a13 a14 a15 a16 a17 a18 a19 a20 a21 a22 a23 a24 a25 a26 a27 q30 a31 a32 a33 a34 a35 a36 a37 a38 a39 a40 a41 a42 a43 a44 a45 a46 a47 a48 a49 a50 q53 hx hb hr hlocks hml hown hts hX hbl hbA hA hA2 hT hZ hK hP hD hS hl h (Or.inl h)
      · exact lc_code_hi l hlt D cI cZ cJ q1 a2 a3 a4 a5 a6 a7 a8 a9 a10 a11 a12 a13 a14 a15 a16 a17 a18 a19 a20 a21 a22 a23 a24 a25 a26 a27 q30 a31 a32 a33 a34 a35 a36 a37 a38 a39 a40 a41 a42 a43 a44 a45 a46 a47 a48 a49 a50 q53 hx hb hr hlocks hml hown hts hX hbl hbA hA hA2 hT hZ hK hP hD hS hl h (Or.inr h)
      · exact lc_code_1 l hlt D cI cZ cJ q1 a2 a3 a4 a5 a6 a7 a8 a9 a10 a11 a12 a13 a14 a15 a16 a17 a18 a19 a20 a21 a22 a23 a24 a25 a26 a27 q30 a31 a32 a33 a34 a35 a36 a37 a38 a39 a40 a41 a42 a43 a44 a45 a46 a47 a48 a49 a50 q53 hx hb hr hlocks hml hown hts hX hbl hbA hA hA2 hT hZ hK hP hD hS hl h
      · exact lc_code_2 l hlt D cI cZ cJ q1 a2 a3 a4 a5 a6 a7 a8 a9 a10 a11 a12 a13 a14 a15 a16 a17 a18 a19 a20 a21 a22 a23 a24 a25 a26 a27 q30 a31 a32 a33 a34 a35 a36 a37 a38 a39 a40 a41 a42 a43 a44 a45 a46 a47 a48 a49 a50 q53 hx hb hr hlocks hml hown hts hX hbl hbA hA hA2 hT hZ hK hP hD hS hl h
      · exact lc_code_3 l hlt D cI cZ cJ q1 a2 a3 a4 a5 a6 a7 a8 a9 a10 a11 a12 a13 a14 a15 a16 a17 a18 a19 a20 a21 a22 a23 a24 a25 a26 a27 q30 a31 a32 a33 a34 a35 a36 a37 a38 a39 a40 a41 a42 a43 a44 a45 a46 a47 a48 a49 a50 q53 hx hb hr hlocks hml hown hts hX hbl hbA hA hA2 hT hZ hK hP hD hS hl h
      · exact lc_code_4 l hlt D cI cZ cJ q1 a2 a3 a4 a5 a6 a7 a8 a9 a10 a11 a12 a13 a14 a15 a16 a17 a18 a19 a20 a21 a22 a23 a24 a25 a26 a27 q30 a31 a32 a33 a34 a35 a36 a37 a38 a39 a40 a41 a42 a43 a44 a45 a46 a47 a48 a49 a50 q53 hx hb hr hlocks hml hown hts hX hbl hbA hA hA2 hT hZ hK hP hD hS hl h
    · obtain rfl : z904 = 1 := hz904.trans (hje.trans (by decide))
      refine lv_tableIn hx hb d_Law_law_39 (x := 1) (off := 98) (tgt := 137) (by decide) (by decide) rfl (by decide) ?_
      by_cases h : xs 1 = -1
      · exact lc_object_1 l hlt D cI cZ cJ q1 a2 a3 a4 a5 a6 a7 a8 a9 a10 a11 a12 a13 a14 a15 a16 a17 a18 a19 a20 a21 a22 a23 a24 a25 a26 a27 q30 a31 a32 a33 a34 a35 a36 a37 a38 a39 a40 a41 a42 a43 a44 a45 a46 a47 a48 a49 a50 q53 hx hb hr hlocks hml hown hts hX hbl hbA hA hA2 hT hZ hK hP hD hS hl h
      · exact lc_object_2 l hlt D cI cZ cJ q1 a2 a3 a4 a5 a6 a7 a8 a9 a10 a11 a12 a13 a14 a15 a16 a17 a18 a19 a20 a21 a22 a23 a24 a25 a26 a27 q30 a31 a32 a33 a34 a35 a36 a37 a38 a39 a40 a41 a42 a43 a44 a45 a46 a47 a48 a49 a50 q53 hx hb hr hlocks hml hown hts hX hbl hbA hA hA2 hT hZ hK hP hD hS hl h
    · obtain rfl : z904 = 2 := hz904.trans (hje.trans (by decide))
      refine lv_tableIn hx hb d_Law_law_39 (x := 2) (off := 178) (tgt := 217) (by decide) (by decide) rfl (by decide) ?_
      exact lc_property l hlt D cI cZ cJ q1 a2 a3 a4 a5 a6 a7 a8 a9 a10 a11 a12 a13 a14 a15 a16 a17 a18 a19 a20 a21 a22 a23 a24 a25 a26 a27 q30 a31 a32 a33 a34 a35 a36 a37 a38 a39 a40 a41 a42 a43 a44 a45 a46 a47 a48 a49 a50 q53 hx hb hr hlocks hml hown hts hX hbl hbA hA hA2 hT hZ hK hP hD hS hl
    · obtain rfl : z904 = 3 := hz904.trans (hje.trans (by decide))
      refine lv_tableIn hx hb d_Law_law_39 (x := 3) (off := 250) (tgt := 289) (by decide) (by decide) rfl (by decide) ?_
      exact lc_begin l hlt D cI cZ cJ q1 a2 a3 a4 a5 a6 a7 a8 a9 a10 a11 a12 a13 a14 a15 a16 a17 a18 a19 a20 a21 a22 a23 a24 a25 a26 a27 q30 a31 a32 a33 a34 a35 a36 a37 a38 a39 a40 a41 a42 a43 a44 a45 a46 a47 a48 a49 a50 q53 hx hb hr hlocks hml hown hts hX hbl hbA hA hA2 hT hZ hK hP hD hS hl
    · obtain rfl : z904 = 4 := hz904.trans (hje.trans (by decide))
      refine lv_tableIn hx hb d_Law_law_39 (x := 4) (off := 298) (tgt := 337) (by decide) (by decide) rfl (by decide) ?_
      exact lc_run l hlt D cI cZ cJ q1 a2 a3 a4 a5 a6 a7 a8 a9 a10 a11 a12 a13 a14 a15 a16 a17 a18 a19 a20 a21 a22 a23 a24 a25 a26 a27 q30 a31 a32 a33 a34 a35 a36 a37 a38 a39 a40 a41 a42 a43 a44 a45 a46 a47 a48 a49 a50 q53 hx hb hr hlocks hml hown hts hX hbl hbA hA hA2 hT hZ hK hP hD hS hl
    · obtain rfl : z904 = 5 := hz904.trans (hje.trans (by decide))
      refine lv_tableIn hx hb d_Law_law_39 (x := 5) (off := 323) (tgt := 362) (by decide) (by decide) rfl (by decide) ?_
      exact lc_stop l hlt D cI cZ cJ q1 a2 a3 a4 a5 a6 a7 a8 a9 a10 a11 a12 a13 a14 a15 a16 a17 a18 a19 a20 a21 a22 a23 a24 a25 a26 a27 q30 a31 a32 a33 a34 a35 a36 a37 a38 a39 a40 a41 a42 a43 a44 a45 a46 a47 a48 a49 a50 q53 hx hb hr hlocks hml hown hts hX hbl hbA hA hA2 hT hZ hK hP hD hS hl
    · obtain rfl : z904 = 6 := hz904.trans (hje.trans (by decide))
      refine lv_tableIn hx hb d_Law_law_39 (x := 6) (off := 336) (tgt := 375) (by decide) (by decide) rfl (by decide) ?_
      exact lc_collect l hlt D cI cZ cJ q1 a2 a3 a4 a5 a6 a7 a8 a9 a10 a11 a12 a13 a14 a15 a16 a17 a18 a19 a20 a21 a22 a23 a24 a25 a26 a27 q30 a31 a32 a33 a34 a35 a36 a37 a38 a39 a40 a41 a42 a43 a44 a45 a46 a47 a48 a49 a50 q53 hx hb hr hlocks hml hown hts hX hbl hbA hA hA2 hT hZ hK hP hD hS hl
    · obtain rfl : z904 = 7 := hz904.trans (hje.trans (by decide))
      refine lv_tableIn hx hb d_Law_law_39 (x := 7) (off := 349) (tgt := 388) (by decide) (by decide) rfl (by decide) ?_
      exact lc_stack l hlt D cI cZ cJ q1 a2 a3 a4 a5 a6 a7 a8 a9 a10 a11 a12 a13 a14 a15 a16 a17 a18 a19 a20 a21 a22 a23 a24 a25 a26 a27 q30 a31 a32 a33 a34 a35 a36 a37 a38 a39 a40 a41 a42 a43 a44 a45 a46 a47 a48 a49 a50 q53 hx hb hr hlocks hml hown hts hX hbl hbA hA hA2 hT hZ hK hP hD hS hl
    · obtain rfl : z904 = 8 := hz904.trans (hje.trans (by decide))
      refine lv_tableIn hx hb d_Law_law_39 (x := 8) (off := 417) (tgt := 456) (by decide) (by decide) rfl (by decide) ?_
      rcases sp_show (xs 1) with h | h | h | h | h
      · exact lc_show_0 l hlt D cI cZ cJ q1 a2 a3 a4 a5 a6 a7 a8 a9 a10 a11 a12 a13 a14 a15 a16 a17 a18 a19 a20 a21 a22 a23 a24 a25 a26 a27 q30 a31 a32 a33 a34 a35 a36 a37 a38 a39 a40 a41 a42 a43 a44 a45 a46 a47 a48 a49 a50 q53 hx hb hr hlocks hml hown hts hX hbl hbA hA hA2 hT hZ hK hP hD hS hl h
      · exact lc_show_3 l hlt D cI cZ cJ q1 a2 a3 a4 a5 a6 a7 a8 a9 a10 a11 a12 a13 a14 a15 a16 a17 a18 a19 a20 a21 a22 a23 a24 a25 a26 a27 q30 a31 a32 a33 a34 a35 a36 a37 a38 a39 a40 a41 a42 a43 a44 a45 a46 a47 a48 a49 a50 q53 hx hb hr hlocks hml hown hts hX hbl hbA hA hA2 hT hZ hK hP hD hS hl h
      · exact lc_show_4 l hlt D cI cZ cJ q1 a2 a3 a4 a5 a6 a7 a8 a9 a10 a11 a12 a13 a14 a15 a16 a17 a18 a19 a20 a21 a22 a23 a24 a25 a26 a27 q30 a31 a32 a33 a34 a35 a36 a37 a38 a39 a40 a41 a42 a43 a44 a45 a46 a47 a48 a49 a50 q53 hx hb hr hlocks hml hown hts hX hbl hbA hA hA2 hT hZ hK hP hD hS hl h
      · exact lc_show_5 l hlt D cI cZ cJ q1 a2 a3 a4 a5 a6 a7 a8 a9 a10 a11 a12 a13 a14 a15 a16 a17 a18 a19 a20 a21 a22 a23 a24 a25 a26 a27 q30 a31 a32 a33 a34 a35 a36 a37 a38 a39 a40 a41 a42 a43 a44 a45 a46 a47 a48 a49 a50 q53 hx hb hr hlocks hml hown hts hX hbl hbA hA hA2 hT hZ hK hP hD hS hl h
      · exact lc_show_x l hlt D cI cZ cJ q1 a2 a3 a4 a5 a6 a7 a8 a9 a10 a11 a12 a13 a14 a15 a16 a17 a18 a19 a20 a21 a22 a23 a24 a25 a26 a27 q30 a31 a32 a33 a34 a35 a36 a37 a38 a39 a40 a41 a42 a43 a44 a45 a46 a47 a48 a49 a50 q53 hx hb hr hlocks hml hown hts hX hbl hbA hA hA2 hT hZ hK hP hD hS hl h
    · obtain rfl : z904 = 9 := hz904.trans (hje.trans (by decide))
      refine lv_tableIn hx hb d_Law_law_39 (x := 9) (off := 473) (tgt := 512) (by decide) (by decide) rfl (by decide) ?_
      exact lc_said l hlt D cI cZ cJ q1 a2 a3 a4 a5 a6 a7 a8 a9 a10 a11 a12 a13 a14 a15 a16 a17 a18 a19 a20 a21 a22 a23 a24 a25 a26 a27 q30 a31 a32 a33 a34 a35 a36 a37 a38 a39 a40 a41 a42 a43 a44 a45 a46 a47 a48 a49 a50 q53 hx hb hr hlocks hml hown hts hX hbl hbA hA hA2 hT hZ hK hP hD hS hl
    · obtain rfl : z904 = 10 := hz904.trans (hje.trans (by decide))
      refine lv_tableIn hx hb d_Law_law_39 (x := 10) (off := 541) (tgt := 580) (by decide) (by decide) rfl (by decide) ?_
      exact lc_has l hlt D cI cZ cJ q1 a2 a3 a4 a5 a6 a7 a8 a9 a10 a11 a12 a13 a14 a15 a16 a17 a18 a19 a20 a21 a22 a23 a24 a25 a26 a27 q30 a31 a32 a33 a34 a35 a36 a37 a38 a39 a40 a41 a42 a43 a44 a45 a46 a47 a48 a49 a50 q53 hx hb hr hlocks hml hown hts hX hbl hbA hA hA2 hT hZ hK hP hD hS hl
    · obtain rfl : z904 = 11 := hz904.trans (hje.trans (by decide))
      refine lv_tableIn hx hb d_Law_law_39 (x := 11) (off := 621) (tgt := 660) (by decide) (by decide) rfl (by decide) ?_
      exact lc_isOf l hlt D cI cZ cJ q1 a2 a3 a4 a5 a6 a7 a8 a9 a10 a11 a12 a13 a14 a15 a16 a17 a18 a19 a20 a21 a22 a23 a24 a25 a26 a27 q30 a31 a32 a33 a34 a35 a36 a37 a38 a39 a40 a41 a42 a43 a44 a45 a46 a47 a48 a49 a50 q53 hx hb hr hlocks hml hown hts hX hbl hbA hA hA2 hT hZ hK hP hD hS hl
    · obtain rfl : z904 = 12 := hz904.trans (hje.trans (by decide))
      refine lv_tableOut hx hb d_Law_law_39 (tgt := 697) (by decide) (by decide) ?_
      exact lc_none l hlt D cI cZ cJ q1 a2 a3 a4 a5 a6 a7 a8 a9 a10 a11 a12 a13 a14 a15 a16 a17 a18 a19 a20 a21 a22 a23 a24 a25 a26 a27 q30 a31 a32 a33 a34 a35 a36 a37 a38 a39 a40 a41 a42 a43 a44 a45 a46 a47 a48 a49 a50 q53 hx hb hr hlocks hml hown hts hX hbl hbA hA hA2 hT hZ hK hP hD hS hl
    · obtain rfl : z904 = 13 := hz904.trans (hje.trans (by decide))
      refine lv_tableOut hx hb d_Law_law_39 (tgt := 697) (by decide) (by decide) ?_
      exact lc_none l hlt D cI cZ cJ q1 a2 a3 a4 a5 a6 a7 a8 a9 a10 a11 a12 a13 a14 a15 a16 a17 a18 a19 a20 a21 a22 a23 a24 a25 a26 a27 q30 a31 a32 a33 a34 a35 a36 a37 a38 a39 a40 a41 a42 a43 a44 a45 a46 a47 a48 a49 a50 q53 hx hb hr hlocks hml hown hts hX hbl hbA hA hA2 hT hZ hK hP hD hS hl
    · obtain rfl : z904 = 14 := hz904.trans (hje.trans (by decide))
      refine lv_tableOut hx hb d_Law_law_39 (tgt := 697) (by decide) (by decide) ?_
      exact lc_none l hlt D cI cZ cJ q1 a2 a3 a4 a5 a6 a7 a8 a9 a10 a11 a12 a13 a14 a15 a16 a17 a18 a19 a20 a21 a22 a23 a24 a25 a26 a27 q30 a31 a32 a33 a34 a35 a36 a37 a38 a39 a40 a41 a42 a43 a44 a45 a46 a47 a48 a49 a50 q53 hx hb hr hlocks hml hown hts hX hbl hbA hA hA2 hT hZ hK hP hD hS hl
    · obtain rfl : z904 = 15 := hz904.trans (hje.trans (by decide))
      refine lv_tableOut hx hb d_Law_law_39 (tgt := 697) (by decide) (by decide) ?_
      exact lc_none l hlt D cI cZ cJ q1 a2 a3 a4 a5 a6 a7 a8 a9 a10 a11 a12 a13 a14 a15 a16 a17 a18 a19 a20 a21 a22 a23 a24 a25 a26 a27 q30 a31 a32 a33 a34 a35 a36 a37 a38 a39 a40 a41 a42 a43 a44 a45 a46 a47 a48 a49 a50 q53 hx hb hr hlocks hml hown hts hX hbl hbA hA hA2 hT hZ hK hP hD hS hl
