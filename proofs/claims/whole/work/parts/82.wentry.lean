-- the law's entry: the words at the start, the two worlds made
theorem wLU : Cond.laysStatic Bundle.tN "UNASSIGNED_STACK" Bundle.steD ∈ lw_tbl := List.mem_of_getElem? (i := 466) (by decide +kernel)
theorem wLS : Cond.laysStatic Bundle.tN "SUPPRESSED_SENTINEL" Bundle.listD ∈ lw_tbl := List.mem_of_getElem? (i := 468) (by decide +kernel)
theorem wIniT : Cond.initialized Bundle.tN ∈ lw_tbl := List.mem_of_getElem? (i := 96) (by decide +kernel)
theorem df7 : ∀ j, j < 20 → defaultValue (tyX7 j) = vp_V ps7 j := by decide +kernel
theorem ty_kind {S : State} {cA : ClassId} {kA : Class} {comp : ClassId} {t : FieldType} (h2 : S.vm.classes[cA]? = some kA) (h3 : kA.kind = .array comp t) : ArrOfT S cA t := fun n z => ⟨fun k h => (by cases h), kA, h2, comp, h3⟩
theorem ty_obj {S : State} {args : Array Value} {C : String} (h : (Cond.arrayOver (.object C)).before args S = true) : ∃ cA, ArrOfT S cA (.object C) ∧ va_RA S cA (.object C) := by
  obtain ⟨comp, c, k, h1, -, h3, h4, h5⟩ := Cond.arrayOver_spec h
  exact ⟨c, ty_kind h3 h4, k, comp, h3, h4, h1, h5⟩
theorem ty_arr {S : State} {args : Array Value} {t : FieldType} (h : (Cond.arrayOver (.array t)).before args S = true) : ∃ cA, ArrOfT S cA (.array t) ∧ va_RA S cA (.array t) := by
  obtain ⟨comp, c, k, h1, -, h3, h4, h5⟩ := aoA_spec h
  exact ⟨c, ty_kind h3 h4, h5⟩
theorem ty_int {S : State} {args : Array Value} (h : (Cond.arrayClass .int).before args S = true) : ∃ cA, ArrOfT S cA .int ∧ va_RA S cA .int := by
  obtain ⟨c, k, comp, h1, h2, h3⟩ := Cond.arrayClass_spec h
  exact ⟨c, ty_kind h2 h3, h1⟩
theorem ty_long {S : State} {args : Array Value} (h : (Cond.arrayClass .long).before args S = true) : ∃ cA, ArrOfT S cA .long ∧ va_RA S cA .long := by
  obtain ⟨c, k, comp, h1, h2, h3⟩ := Cond.arrayClass_spec h
  exact ⟨c, ty_kind h2 h3, h1⟩
theorem ty_double {S : State} {args : Array Value} (h : (Cond.arrayClass .double).before args S = true) : ∃ cA, ArrOfT S cA .double ∧ va_RA S cA .double := by
  obtain ⟨c, k, comp, h1, h2, h3⟩ := Cond.arrayClass_spec h
  exact ⟨c, ty_kind h2 h3, h1⟩
theorem GK.start {S : State} {args : Array Value} (hts : ∀ w ∈ lw_tbl, w.before args S = true) : ∃ (D : va_G) (cy : Nat → ClassId), GK D cy S := by
  obtain ⟨c0, i0, k0⟩ := u_known (C := RX0) (T := TX0) (N := 13) (n := 13) hts (fun w h => (kin_X0 w h).1) (hts _ wI_X0)
  obtain ⟨c1, i1, k1⟩ := u_known (C := RX1) (T := TX1) (N := 11) (n := 11) hts (fun w h => (kin_X1 w h).1) (hts _ wI_X1)
  obtain ⟨c2, i2, k2⟩ := u_known (C := RX2) (T := TX2) (N := 15) (n := 15) hts (fun w h => (kin_X2 w h).1) (hts _ wI_X2)
  obtain ⟨c3, i3, k3⟩ := u_known (C := RX3) (T := TX3) (N := 11) (n := 11) hts (fun w h => (kin_X3 w h).1) (hts _ wI_X3)
  obtain ⟨c4, i4, k4⟩ := u_known (C := RX4) (T := TX4) (N := 2) (n := 2) hts (fun w h => (kin_X4 w h).1) (hts _ wI_X4)
  obtain ⟨c5, i5, k5⟩ := u_known (C := RX5) (T := TX5) (N := 13) (n := 13) hts (fun w h => (kin_X5 w h).1) (hts _ wI_X5)
  obtain ⟨c6, i6, k6⟩ := u_known (C := RX6) (T := TX6) (N := 8) (n := 8) hts (fun w h => (kin_X6 w h).1) (hts _ wI_X6)
  obtain ⟨c7, i7, k7⟩ := u_known (C := RX7) (T := TX7) (N := 20) (n := 20) hts (fun w h => (kin_X7 w h).1) (hts _ wI_X7)
  obtain ⟨a0, t0⟩ := ty_int (hts _ wAC_int)
  obtain ⟨a1, t1⟩ := ty_obj (C := RX3) (hts _ wAO__object_Pseudorange_Star_)
  obtain ⟨a2, t2⟩ := ty_obj (C := RX4) (hts _ wAO__object_Pseudorange_Station_)
  obtain ⟨a3, t3⟩ := ty_obj (C := RX0) (hts _ wAO__object_Pseudorange_Receiver_)
  obtain ⟨a4, t4⟩ := ty_obj (C := RX1) (hts _ wAO__object_Pseudorange_Sight_)
  obtain ⟨a5, t5⟩ := ty_arr (hts _ wAO__array_int_)
  obtain ⟨a6, t6⟩ := ty_arr (hts _ wAO__array_array_int_)
  obtain ⟨a7, t7⟩ := ty_long (hts _ wAC_long)
  obtain ⟨a8, t8⟩ := ty_double (hts _ wAC_double)
  refine ⟨(fun k => match k with | 0 => c0 | 1 => c1 | 2 => c2 | 3 => c3 | 4 => c4 | 5 => c5 | 6 => c6 | _ => c7, fun k => match k with | 0 => i0 | 1 => i1 | 2 => i2 | 3 => i3 | 4 => i4 | 5 => i5 | 6 => i6 | _ => i7), fun k => match k with | 0 => a0 | 1 => a1 | 2 => a2 | 3 => a3 | 4 => a4 | 5 => a5 | 6 => a6 | 7 => a7 | _ => a8, ALLW.of hts, fun k q h => ?_, fun k q h => ?_⟩
  · match k, h with
    | 0, h => cases h; exact k0
    | 1, h => cases h; exact k1
    | 2, h => cases h; exact k2
    | 3, h => cases h; exact k3
    | 4, h => cases h; exact k4
    | 5, h => cases h; exact k5
    | 6, h => cases h; exact k6
    | 7, h => cases h; exact k7
    | k + 8, h => exact absurd (List.getElem?_eq_some_iff.mp h).1 (by show ¬ k + 8 < 8; omega)
  · match k, h with
    | 0, h => cases h; exact t0
    | 1, h => cases h; exact t1
    | 2, h => cases h; exact t2
    | 3, h => cases h; exact t3
    | 4, h => cases h; exact t4
    | 5, h => cases h; exact t5
    | 6, h => cases h; exact t6
    | 7, h => cases h; exact t7
    | 8, h => cases h; exact t8
    | k + 9, h => exact absurd (List.getElem?_eq_some_iff.mp h).1 (by show ¬ k + 9 < 9; omega)
theorem Rel.start : Rel 0 0 0 0 0 (fun _ _ => 0) mZ :=
  ⟨⟨⟨by omega, by omega, by omega⟩, by omega, by omega⟩, ⟨nI_0.symm, nI_0.symm, ⟨nI_0.symm, nI_0.symm, nI_0.symm⟩, by unfold pSumR; rfl⟩, fun j h => absurd h (by omega), fun _ _ _ _ => rfl, fun i h => absurd h (by omega), fun i h => absurd h (by omega), fun _ _ _ => ⟨fun _ => rfl, fun _ _ _ => rfl⟩⟩
theorem adNew_lo {a w q : Nat} (ha : a < w) (h : CA (adNew a w) 0 0 0 q) : a ≤ q := by
  obtain ⟨k, hk, rfl⟩ := h
  unfold adNew
  split
  · omega
  · split
    · omega
    · split
      · omega
      · split <;> omega
theorem mdN_lo {a w q : Nat} (ha : a < w) (h : MA (mdN a w) q) : a ≤ q := by
  obtain ⟨k, hk, rfl⟩ := h
  unfold mdN
  split <;> omega
set_option maxHeartbeats 4000000 in
set_option maxRecDepth 100000 in
theorem whole_run (l : Launch) (hlf : l.stackTraces = false) {p : Program} {e : Env} {s : State} {m : MethodId} {args : Array Value} {below : List Frame} {meth : Method} {c : Code} {b L : Nat} {xs : Nat → Int32} (hx : p.tables.exec = Jvm.exec) (hb : c.code = cL_law) (hml9 : c.maxLocals = 9) (hown : s.vm.findClass RL = some m.cls) (hts : ∀ w ∈ lw_tbl, w.before args s = true) (hXs : va_X b L xs s s.heap) (hbl : b < s.heap.size) (hGz : GXL s) (hN : NC s) (hL3 : L ≤ 3072) {Q : State → Prop}
    (hend : ∀ (H : Heap) (locs : List Loc) (ls : Array Slot), va_S (fun q => s.heap.size ≤ q) s.heap H locs → W p l e room_1 s m args below meth c H locs 601024 7293034 Q (F0 m 1992 ls []))
    (ls : Array Slot) (hl : lv_has ls 9 [(0, .ref b)]) : W p l e room_1 s m args below meth c s.heap [] 0 0 Q (F0 m 0 ls []) := by
  obtain ⟨D, cy, hG⟩ := GK.start hts
  have hX : XWD s := XWD.of hts
  have hAW : AWD s := AWD.of hts
  have hC : LC D cy p s m meth c b L xs := ⟨⟨hx, hb, hml9, hown⟩, ⟨hG, hX, hGz, hAW, hN⟩, hXs, hbl⟩
  have hS : va_S (fun q => s.heap.size ≤ q) s.heap s.heap [] := va_S.rf
  have hml : c.maxLocals = ls.size := hml9.trans hl.1.symm
  refine k_new (q0 := s.heap.size) (ci := 6) (C := RX6) (T := TX6) (N := 8) (fs := ps0) hx hb hown hG hS rfl rfl kin_X6 tyX6 tyX6_ok wC_L_8 wI_X6 wIni_X6 df6 (Nat.le_of_ble_eq_true rfl) (Nat.le_of_ble_eq_true rfl) dL_law_0 (fun H1 hP1 z1 o1 hS => ?_)
  refine lv_dup hx hb dL_law_3 rfl ?_
  refine kc_uv (kr_I (b := s.heap.size) (As := []) (rest := [.ref s.heap.size]) hx hb hml hown hG (c_X6_init l D cy s.heap.size (s.heap.size + 1)) (PA.preS hG hAW ⟨⟨hP1, Nat.lt_succ_self _⟩, z1⟩) cf_X6_init wM_L_97 ⟨rfl, rfl, Nat.le_of_ble_eq_true rfl, Nat.le_of_ble_eq_true rfl⟩ rfl rfl (Nat.le_of_ble_eq_true rfl) ⟨Nat.le_of_ble_eq_true rfl, Nat.le_of_ble_eq_true rfl⟩ dL_law_4) hS (fun q h => h.elim (fun h => Nat.le_of_eq h.symm) (fun h => Nat.le_trans (Nat.le_succ _) h)) (fun H2 locs hp1 z2 oq2 hS => ?_)
  obtain ⟨hcw, hz2⟩ := hp1
  refine lv_astore_n (lv' := [(1, .ref s.heap.size), (0, .ref b)]) hx hb dL_law_7 rfl hl (by decide) rfl (fun ls hl => ?_)
  have hml : c.maxLocals = ls.size := hml9.trans hl.1.symm
  have hz2' : H2.size = s.heap.size + 10 := hz2
  refine k_new (q0 := s.heap.size + 10) (ci := 7) (C := RX7) (T := TX7) (N := 20) (fs := ps7) hx hb hown hG hS hz2' rfl kin_X7 tyX7 tyX7_ok wC_L_98 wI_X7 wIni_X7 df7 (Nat.le_of_ble_eq_true rfl) (Nat.le_of_ble_eq_true rfl) dL_law_8 (fun H3 hP3 z3 o3 hS => ?_)
  have hclt := CA.lt hcw ⟨by omega, by omega, by omega⟩
  have hcw := hcw.keep (A := fun _ => False) (fun q h _ => o3 q (by omega)) (fun q _ h => h)
  refine lv_dup hx hb dL_law_11 rfl ?_
  refine kc_uv (kr_I (b := s.heap.size + 10) (As := []) (rest := [.ref (s.heap.size + 10)]) hx hb hml hown hG (c_X7_init l D cy (s.heap.size + 10) (s.heap.size + 11)) (PA.preS hG hAW ⟨⟨hP3, Nat.lt_succ_self _⟩, z3⟩) cf_X7_init wM_L_100 ⟨rfl, rfl, Nat.le_of_ble_eq_true rfl, Nat.le_of_ble_eq_true rfl⟩ rfl rfl (Nat.le_of_ble_eq_true rfl) ⟨Nat.le_of_ble_eq_true rfl, Nat.le_of_ble_eq_true rfl⟩ dL_law_12) hS (fun q h => h.elim (fun h => (show s.heap.size ≤ q by omega)) (fun h => (show s.heap.size ≤ q by omega))) (fun H4 locs hp4 z4 oq4 hS => ?_)
  obtain ⟨hmw, hz4⟩ := hp4
  have hcw := hcw.keep oq4 (fun q hq h => by have := hclt q hq; omega)
  have hz4' : H4.size = s.heap.size + 69 := hz4
  refine lv_astore_n (lv' := [(2, .ref (s.heap.size + 10)), (1, .ref s.heap.size), (0, .ref b)]) hx hb dL_law_15 rfl hl (by decide) rfl (fun ls hl => ?_)
  have hml : c.maxLocals = ls.size := hml9.trans hl.1.symm
  refine lv_iconst (v := 1) hx hb dL_law_16 (by decide) ?_
  refine k_newl hx hb hG hS hz4' (Nat.le_of_ble_eq_true rfl) (Nat.le_of_ble_eq_true rfl) dL_law_17 (fun H5 hol z5 o5 hS => ?_)
  have hmlt := MA.lt hmw
  have hcw := hcw.keep (A := fun _ => False) (fun q h _ => o5 q (by omega)) (fun q _ h => h)
  have hmw := hmw.keep (A := fun _ => False) (fun q h _ => o5 q (by omega)) (fun q _ h => h)
  refine lv_astore_n (lv' := [(3, .ref (s.heap.size + 69)), (2, .ref (s.heap.size + 10)), (1, .ref s.heap.size), (0, .ref b)]) hx hb dL_law_19 rfl hl (by decide) rfl (fun ls hl => ?_)
  refine lv_iconst (v := 1) hx hb dL_law_20 (by decide) ?_
  refine k_newd (q0 := s.heap.size + 70) hx hb hG hS z5 (Nat.le_of_ble_eq_true rfl) (Nat.le_of_ble_eq_true rfl) dL_law_21 (fun H6 hod z6 o6 hS => ?_)
  have hcw := hcw.keep (A := fun _ => False) (fun q h _ => o6 q (by omega)) (fun q _ h => h)
  have hmw := hmw.keep (A := fun _ => False) (fun q h _ => o6 q (by omega)) (fun q _ h => h)
  have hol : oL D cy (s.heap.size + 69) (fun _ => 0) H6 := kP_keepA (A := fun _ => False) hol (fun q h _ => o6 q (by omega)) (fun h => h)
  refine lv_astore (lv' := [(4, .ref (s.heap.size + 70)), (3, .ref (s.heap.size + 69)), (2, .ref (s.heap.size + 10)), (1, .ref s.heap.size), (0, .ref b)]) hx hb dL_law_23 hl (by decide) rfl (fun ls hl => ?_)
  refine lv_iconst (v := 0) hx hb dL_law_25 (by decide) ?_
  refine lv_istore (lv' := [(5, .int 0), (4, .ref (s.heap.size + 70)), (3, .ref (s.heap.size + 69)), (2, .ref (s.heap.size + 10)), (1, .ref s.heap.size), (0, .ref b)]) hx hb dL_law_26 hl (by decide) rfl (fun ls hl => ?_)
  have hl : lv_has ls 9 [(5, .int (nI 0)), (4, .ref (s.heap.size + 70)), (3, .ref (s.heap.size + 69)), (2, .ref (s.heap.size + 10)), (1, .ref s.heap.size), (0, .ref b)] := by rw [nI_0]; exact hl
  have hJ : DJ (adNew s.heap.size (s.heap.size + 1)) (mdN (s.heap.size + 10) (s.heap.size + 11)) 0 0 0 (s.heap.size + 69) (s.heap.size + 70) s.heap.size := by
    refine ⟨fun q hq => ?_, fun q hq => ?_, by omega, by omega, by omega⟩
    · have h1 := adNew_lo (by omega) hq
      have h2 := hclt q hq
      refine ⟨h1, fun h => ?_, by omega, by omega⟩
      have h3 := mdN_lo (by omega) h
      omega
    · have h1 := mdN_lo (by omega) hq
      have h2 := hmlt q hq
      exact ⟨by omega, by omega, by omega⟩
  have hI : LI D cy s.heap.size s.heap.size (s.heap.size + 10) (s.heap.size + 69) (s.heap.size + 70) 0 H6 :=
    ⟨0, 0, 0, 0, fun _ _ => 0, mZ, (fun _ => 0, 0, 0, fun _ _ => 0), 0, 0, adNew s.heap.size (s.heap.size + 1), mdN (s.heap.size + 10) (s.heap.size + 11), fun _ => 0, fun _ => 0, Rel.start, adNew_AI (by omega), mdN_MI (by omega), hJ, hcw, hmw, hol, hod, rfl, rfl⟩
  refine W.widen (k := 100 + 51 * 0) (n := 1000 + 669 * 0) (Nat.le_of_ble_eq_true rfl) (Nat.le_of_ble_eq_true rfl) ?_
  exact law_loop l hlf hC hL3 hend 513 0 0 H6 locs ls (by omega) (by omega) rfl hI hS (lv_sub hl [5, 4, 3, 2, 1, 0] rfl)
