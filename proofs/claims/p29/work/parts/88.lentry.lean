-- the law's entry
theorem wLU : Cond.laysStatic Bundle.tN "UNASSIGNED_STACK" Bundle.steD ∈ lw_tbl := List.mem_of_getElem? (i := 211) (by decide +kernel)
theorem wLS : Cond.laysStatic Bundle.tN "SUPPRESSED_SENTINEL" Bundle.listD ∈ lw_tbl := List.mem_of_getElem? (i := 213) (by decide +kernel)
theorem wIniT : Cond.initialized Bundle.tN ∈ lw_tbl := List.mem_of_getElem? (i := 61) (by decide +kernel)
theorem ty_kind {S : State} {cA : ClassId} {kA : Class} {comp : ClassId} {t : FieldType} (h2 : S.vm.classes[cA]? = some kA) (h3 : kA.kind = .array comp t) : ArrOfT S cA t := fun n z => ⟨fun k h => (by cases h), kA, h2, comp, h3⟩
theorem ty_obj {S : State} {args : Array Value} {C : String} (h : (Cond.arrayOver (.object C)).before args S = true) : ∃ cA, ArrOfT S cA (.object C) ∧ va_RA S cA (.object C) := by
  obtain ⟨comp, c, k, h1, -, h3, h4, h5⟩ := Cond.arrayOver_spec h
  exact ⟨c, ty_kind h3 h4, k, comp, h3, h4, h1, h5⟩
theorem ty_int {S : State} {args : Array Value} (h : (Cond.arrayClass .int).before args S = true) : ∃ cA, ArrOfT S cA .int ∧ va_RA S cA .int := by
  obtain ⟨c, k, comp, h1, h2, h3⟩ := Cond.arrayClass_spec h
  exact ⟨c, ty_kind h2 h3, h1⟩
theorem GK.start {S : State} {args : Array Value} (hts : ∀ w ∈ lw_tbl, w.before args S = true) : ∃ (D : va_G) (cy : Nat → ClassId), GK D cy S := by
  obtain ⟨c0, i0, k0⟩ := u_known (C := RX0) (T := TX0) (N := 13) (n := 13) hts (fun w h => (kin_X0 w h).1) (hts _ wI_X0)
  obtain ⟨c1, i1, k1⟩ := u_known (C := RX1) (T := TX1) (N := 11) (n := 11) hts (fun w h => (kin_X1 w h).1) (hts _ wI_X1)
  obtain ⟨c2, i2, k2⟩ := u_known (C := RX2) (T := TX2) (N := 15) (n := 15) hts (fun w h => (kin_X2 w h).1) (hts _ wI_X2)
  obtain ⟨c3, i3, k3⟩ := u_known (C := RX3) (T := TX3) (N := 11) (n := 11) hts (fun w h => (kin_X3 w h).1) (hts _ wI_X3)
  obtain ⟨c4, i4, k4⟩ := u_known (C := RX4) (T := TX4) (N := 2) (n := 2) hts (fun w h => (kin_X4 w h).1) (hts _ wI_X4)
  obtain ⟨c5, i5, k5⟩ := u_known (C := RX5) (T := TX5) (N := 13) (n := 13) hts (fun w h => (kin_X5 w h).1) (hts _ wI_X5)
  obtain ⟨c6, i6, k6⟩ := u_known (C := RX6) (T := TX6) (N := 8) (n := 8) hts (fun w h => (kin_X6 w h).1) (hts _ wI_X6)
  obtain ⟨a0, t0⟩ := ty_int (hts _ wAC_int)
  obtain ⟨a1, t1⟩ := ty_obj (C := RX3) (hts _ wAO__object_Pseudorange_Star_)
  obtain ⟨a2, t2⟩ := ty_obj (C := RX4) (hts _ wAO__object_Pseudorange_Station_)
  obtain ⟨a3, t3⟩ := ty_obj (C := RX0) (hts _ wAO__object_Pseudorange_Receiver_)
  obtain ⟨a4, t4⟩ := ty_obj (C := RX1) (hts _ wAO__object_Pseudorange_Sight_)
  refine ⟨(fun k => match k with | 0 => c0 | 1 => c1 | 2 => c2 | 3 => c3 | 4 => c4 | 5 => c5 | _ => c6, fun k => match k with | 0 => i0 | 1 => i1 | 2 => i2 | 3 => i3 | 4 => i4 | 5 => i5 | _ => i6), fun k => match k with | 0 => a0 | 1 => a1 | 2 => a2 | 3 => a3 | _ => a4, ALLW.of hts, fun k q h => ?_, fun k q h => ?_⟩
  · match k, h with
    | 0, h => cases h; exact k0
    | 1, h => cases h; exact k1
    | 2, h => cases h; exact k2
    | 3, h => cases h; exact k3
    | 4, h => cases h; exact k4
    | 5, h => cases h; exact k5
    | 6, h => cases h; exact k6
    | k + 7, h => exact absurd (List.getElem?_eq_some_iff.mp h).1 (by show ¬ k + 7 < 7; omega)
  · match k, h with
    | 0, h => cases h; exact t0
    | 1, h => cases h; exact t1
    | 2, h => cases h; exact t2
    | 3, h => cases h; exact t3
    | 4, h => cases h; exact t4
    | k + 5, h => exact absurd (List.getElem?_eq_some_iff.mp h).1 (by show ¬ k + 5 < 5; omega)
theorem adNew_lo {a w q : Nat} (ha : a < w) (h : CA (adNew a w) 0 0 0 q) : a ≤ q := by
  obtain ⟨k, hk, rfl⟩ := h
  unfold adNew
  split
  · omega
  · split
    · omega
    · split
      · omega
      · split <;> omega
theorem sum7_0 {M : Nat → Nat → Int32} : ∀ k, (∀ i, i < k → M (50 + i) 0 = 0) → pSumR M 7 k = nI 0
  | 0, _ => by rw [pSumR, nI_0]
  | k + 1, h => by
    rw [pSumR_s, sum7_0 k (fun i hi => h i (by omega)), if_pos rfl, h k (by omega), Int32.add_zero]
theorem lw_dig {a b : Int64} (h : a = b) : lg_cmp a b = 0 := (lg_cmp_eq _ _).mpr h
set_option maxHeartbeats 8000000 in
set_option maxRecDepth 100000 in
theorem law_end (l : Launch) (hlf : l.stackTraces = false) {p : Program} {e : Env} {s : State} {m : MethodId} {args : Array Value} {below : List Frame} {meth : Method} {c : Code} {b : Nat} {Q : State → Prop} {D : va_G} {cy : Nat → ClassId} {A0 : Nat → Prop} {ad : Nat → Nat} {ns nt nr n ep : Nat} {M : Nat → Nat → Int32} {V : SX} {H : Heap} {locs : List Loc} {cells slots : Nat} {ls : Array Slot} (hK : QX D cy p l s m c cL_law A0 ad ns nt nr) (hml9 : c.maxLocals = 20) (hW : JW ep n ns nt nr M) (hw : CW D cy ad ns nt nr M V H) (hS : va_S A0 s.heap H locs) (hc : cells ≤ 60000) (hs : slots ≤ 400000) (hl : lv_has ls 20 [(4, .int (nI nr)), (3, .int (nI nt)), (2, .int (nI ns)), (1, .ref (ad 0)), (0, .ref b)])
    (hend : ∀ (H : Heap) (locs : List Loc) (ls : Array Slot), va_S A0 s.heap H locs → W p l e room_1 s m args below meth c H locs 600086 7301442 Q (F0 m 1362 ls [.int 1])) :
    W p l e room_1 s m args below meth c H locs cells slots Q (F0 m 1331 ls []) := by
  obtain ⟨⟨hx, hb, hown⟩, ⟨hG, hX, hGx⟩, ⟨hL, hA, hA0⟩, hlf⟩ := id hK
  have hml : c.maxLocals = ls.size := hml9.trans hl.1.symm
  have rO : 7 ≤ room_1.frames ∧ 160 ≤ room_1.locals := ⟨Nat.le_of_ble_eq_true rfl, Nat.le_of_ble_eq_true rfl⟩
  refine lv_aload_n hx hb dL_law_1331 rfl (lv_at hl 3 rfl) ?_
  refine kc_ul (kr_V (As := []) (rest := []) hx hb hml hown hG (c_X6_digest l D cy ad ns nt nr hL M V hA) cf_X6_digest wM_L_102 hw.o rfl hw ⟨rfl, rfl, Nat.le_of_ble_eq_true rfl, Nat.le_of_ble_eq_true rfl⟩ rfl rfl (Nat.le_of_ble_eq_true rfl) ⟨show cells + 0 ≤ 600086 by omega, show slots + 0 ≤ 7301442 by omega⟩ dL_law_1332) hS hA0 (fun r1332 H locs hp z1 oq1 hS => ?_)
  obtain ⟨e1332, V1332, hw⟩ := hp
  refine lv_lstore (lv' := [(6, .long r1332), (4, .int (nI nr)), (3, .int (nI nt)), (2, .int (nI ns)), (1, .ref (ad 0)), (0, .ref b)]) hx hb dL_law_1335 hl (by decide) rfl (fun ls hl => ?_)
  have hml : c.maxLocals = ls.size := hml9.trans hl.1.symm
  refine lv_aload_n hx hb dL_law_1337 rfl (lv_at hl 4 rfl) ?_
  refine lv_iload_n hx hb dL_law_1338 rfl (lv_at hl 3 rfl) ?_
  refine lv_iload hx hb dL_law_1339 (lv_at hl 1 rfl) ?_
  refine kc_ui (kx_S (As := [.ref (ad 0), .int (nI ns), .int (nI nr)]) (rest := []) hx hb hml hown hG (c_L_isSo l hlf D cy ad ns nt nr M V1332 hA hW) cf_L_isSo wM_L_98 (PI.preS hG hX (hGx.sub hS hA0) hw) ⟨rfl, rfl, Nat.le_of_ble_eq_true rfl, Nat.le_of_ble_eq_true rfl⟩ rfl rfl (Nat.le_of_ble_eq_true rfl) ⟨show (cells + 0) + 800 ≤ 600086 by omega, show (slots + 0) + 4800 ≤ 7301442 by omega⟩ dL_law_1341) hS hA0 (fun r H locs hp z1 oq1 hS => ?_)
  obtain ⟨rfl, hw⟩ := hp
  refine lv_if_eq (tgt := 1361) hx hb dL_law_1344 (by decide) (fun q9 => absurd q9 (by decide)) (fun _ => ?_)
  refine lv_aload_n hx hb dL_law_1347 rfl (lv_at hl 4 rfl) ?_
  refine kc_ul (kr_V (As := []) (rest := []) hx hb hml hown hG (c_X6_digest l D cy ad ns nt nr hL M V1332 hA) cf_X6_digest wM_L_102 hw.o rfl hw ⟨rfl, rfl, Nat.le_of_ble_eq_true rfl, Nat.le_of_ble_eq_true rfl⟩ rfl rfl (Nat.le_of_ble_eq_true rfl) ⟨show (cells + 800) + 0 ≤ 600086 by omega, show (slots + 4800) + 0 ≤ 7301442 by omega⟩ dL_law_1348) hS hA0 (fun r1348 H locs hp z1 oq1 hS => ?_)
  obtain ⟨e1348, V1348, hw⟩ := hp
  refine lv_lload hx hb dL_law_1351 (lv_at hl 0 rfl) ?_
  refine W.lcmp hx hb dL_law_1353 ?_
  refine lv_if_ne (tgt := 1361) hx hb dL_law_1354 (by decide) (fun q9 => absurd (lw_dig (e1348.trans ((dig_b hW _ _).trans e1332.symm))) q9) (fun _ => ?_)
  refine lv_iconst (v := 1) hx hb dL_law_1357 (by decide) ?_
  refine lv_goto (tgt := 1362) hx hb dL_law_1358 (by decide) ?_
  refine W.widen (k := 600086) (n := 7301442) (by omega) (by omega) ?_
  exact hend H locs ls hS
set_option maxHeartbeats 8000000 in
set_option maxRecDepth 100000 in
theorem law_run (l : Launch) (hlf : l.stackTraces = false) {p : Program} {e : Env} {s : State} {m : MethodId} {args : Array Value} {below : List Frame} {meth : Method} {c : Code} {b L : Nat} {xs : Nat → Int32} (hx : p.tables.exec = Jvm.exec) (hb : c.code = cL_law) (hml9 : c.maxLocals = 20) (hown : s.vm.findClass RL = some m.cls) (hts : ∀ w ∈ lw_tbl, w.before args s = true) (hXs : va_X b L xs s s.heap) (hbl : b < s.heap.size) (hGx : GXA (fun q => s.heap.size ≤ q) s s.heap) (hL : L ≤ 260) {Q : State → Prop}
    (hend : ∀ (H : Heap) (locs : List Loc) (ls : Array Slot), va_S (fun q => s.heap.size ≤ q) s.heap H locs → W p l e room_1 s m args below meth c H locs 600086 7301442 Q (F0 m 1362 ls [.int 1]))
    (ls : Array Slot) (hl : lv_has ls 20 [(0, .ref b)]) : W p l e room_1 s m args below meth c s.heap [] 0 0 Q (F0 m 0 ls []) := by
  obtain ⟨D, cy, hG⟩ := GK.start hts
  have hX : XWD s := XWD.of hts
  have hAW : AWD s := AWD.of hts
  have hL31 : L < 2 ^ 31 := by omega
  have hS : va_S (fun q => s.heap.size ≤ q) s.heap s.heap [] := va_S.rf
  have hml : c.maxLocals = ls.size := hml9.trans hl.1.symm
  have hbA : ¬ (fun q => s.heap.size ≤ q) b := Nat.not_le.mpr hbl
  have rO : 7 ≤ room_1.frames ∧ 160 ≤ room_1.locals := ⟨Nat.le_of_ble_eq_true rfl, Nat.le_of_ble_eq_true rfl⟩
  refine k_new (q0 := s.heap.size) (ci := 6) (C := RX6) (T := TX6) (N := 8) (fs := ps0) hx hb hown hG hS rfl rfl kin_X6 tyX6 tyX6_ok wC_L_9 wI_X6 wIni_X6 df6 (Nat.le_of_ble_eq_true rfl) (Nat.le_of_ble_eq_true rfl) dL_law_0 (fun H1 hP1 z1 o1 hS => ?_)
  refine lv_dup hx hb dL_law_3 rfl ?_
  refine kc_uv (kr_I (b := s.heap.size) (As := []) (rest := [.ref s.heap.size]) hx hb hml hown hG (c_X6_init l D cy s.heap.size (s.heap.size + 1)) (PA.preS hG hAW ⟨⟨hP1, Nat.lt_succ_self _⟩, z1⟩) cf_X6_init wM_L_11 ⟨rfl, rfl, Nat.le_of_ble_eq_true rfl, Nat.le_of_ble_eq_true rfl⟩ rfl rfl (Nat.le_of_ble_eq_true rfl) ⟨Nat.le_of_ble_eq_true rfl, Nat.le_of_ble_eq_true rfl⟩ dL_law_4) hS (fun q h => h.elim (fun h => Nat.le_of_eq h.symm) (fun h => Nat.le_trans (Nat.le_succ _) h)) (fun H locs hp1 z2 oq2 hS => ?_)
  obtain ⟨hw, hz2⟩ := hp1
  refine W.widen (k := 10) (n := 100) (Nat.le_of_ble_eq_true rfl) (Nat.le_of_ble_eq_true rfl) ?_
  refine lv_astore_n (lv' := [(1, .ref s.heap.size), (0, .ref b)]) hx hb dL_law_7 rfl hl (by decide) rfl (fun ls hl => ?_)
  have hml : c.maxLocals = ls.size := hml9.trans hl.1.symm
  refine lv_iconst (v := 3) hx hb dL_law_8 (by decide) ?_
  refine lv_aload_n hx hb dL_law_9 rfl (lv_at hl 1 rfl) ?_
  refine lv_iconst (v := 0) hx hb dL_law_10 (by decide) ?_
  refine r_cell (k := 0) hx hb hml hown hG hXs hbA hS hL31 (by omega) (by decide) wM_L_12 ⟨rO, show 10 ≤ 600086 by omega, show 100 ≤ 7301442 by omega⟩ (Nat.le_of_ble_eq_true rfl) dL_law_11 ?_
  refine lv_bipush (v := 6) hx hb dL_law_14 (by decide) ?_
  refine r_belowN (n := 6) hx hb hml hown hG (by decide) (by decide) (by omega) wM_L_18 ⟨rO, show 10 ≤ 600086 by omega, show 100 ≤ 7301442 by omega⟩ (Nat.le_of_ble_eq_true rfl) dL_law_16 (fun q16 hq16 => ?_)
  refine lv_iadd hx hb dL_law_19 ?_
  rw [show (3 : Int32) + nI q16 = nI (3 + q16) from nI_add 3 q16]
  refine lv_istore_n (lv' := [(2, .int (nI (3 + q16))), (1, .ref s.heap.size), (0, .ref b)]) hx hb dL_law_20 rfl hl (by decide) rfl (fun ls hl => ?_)
  have hml : c.maxLocals = ls.size := hml9.trans hl.1.symm
  refine lv_iconst (v := 0) hx hb dL_law_21 (by decide) ?_
  refine lv_istore_n (lv' := [(3, .int 0), (2, .int (nI (3 + q16))), (1, .ref s.heap.size), (0, .ref b)]) hx hb dL_law_22 rfl hl (by decide) rfl (fun ls hl => ?_)
  have hml : c.maxLocals = ls.size := hml9.trans hl.1.symm
  have hU : SU D cy s.heap.size s.heap.size 0 0 0 H := ⟨adNew s.heap.size (s.heap.size + 1), _, _, adNew_AI (Nat.lt_succ_self _), fun q hq => adNew_lo (Nat.lt_succ_self _) hq, JW.start, fun i hi => absurd hi (Nat.not_lt_zero i), hw, rfl⟩
  rw [← nI_0] at hl
  refine lc_stars l hlf hx hb hml9 hown hG hX hAW hGx hXs hbl hL31 hS (ns := 3 + q16) (by omega) hU (Nat.le_refl _) (Nat.le_refl _) (lv_sub hl [0, 1, 2, 3] rfl) (fun H locs ls hU hS hl => ?_)
  have hml : c.maxLocals = ls.size := hml9.trans hl.1.symm
  refine lv_iconst (v := 1) hx hb dL_law_121 (by decide) ?_
  refine lv_aload_n hx hb dL_law_122 rfl (lv_at hl 2 rfl) ?_
  refine lv_bipush (v := 9) hx hb dL_law_123 (by decide) ?_
  refine r_cell (k := 9) hx hb hml hown hG hXs hbA hS hL31 (by omega) (by decide) wM_L_12 ⟨rO, show (10 + 1 * (3 + q16)) ≤ 600086 by omega, show (100 + 11 * (3 + q16)) ≤ 7301442 by omega⟩ (Nat.le_of_ble_eq_true rfl) dL_law_125 ?_
  refine lv_iconst (v := 3) hx hb dL_law_128 (by decide) ?_
  refine r_belowN (n := 3) hx hb hml hown hG (by decide) (by decide) (by omega) wM_L_18 ⟨rO, show (10 + 1 * (3 + q16)) ≤ 600086 by omega, show (100 + 11 * (3 + q16)) ≤ 7301442 by omega⟩ (Nat.le_of_ble_eq_true rfl) dL_law_129 (fun q129 hq129 => ?_)
  refine lv_iadd hx hb dL_law_132 ?_
  rw [show (1 : Int32) + nI q129 = nI (1 + q129) from nI_add 1 q129]
  refine lv_istore_n (lv' := [(3, .int (nI (1 + q129))), (2, .int (nI (3 + q16))), (1, .ref s.heap.size), (0, .ref b)]) hx hb dL_law_133 rfl hl (by decide) rfl (fun ls hl => ?_)
  have hml : c.maxLocals = ls.size := hml9.trans hl.1.symm
  refine lv_iconst (v := 0) hx hb dL_law_134 (by decide) ?_
  refine lv_istore (lv' := [(4, .int 0), (3, .int (nI (1 + q129))), (2, .int (nI (3 + q16))), (1, .ref s.heap.size), (0, .ref b)]) hx hb dL_law_135 hl (by decide) rfl (fun ls hl => ?_)
  have hml : c.maxLocals = ls.size := hml9.trans hl.1.symm
  refine W.widen (k := 20) (n := 200) (by omega) (by omega) ?_
  rw [← nI_0] at hl
  refine lc_stations l hlf hx hb hml9 hown hG hX hAW hGx hXs hbl hL31 hS (nt := 1 + q129) (by omega) hU (Nat.le_refl _) (Nat.le_refl _) (lv_sub hl [0, 1, 2, 3, 4] rfl) (fun H locs ls hU hS hl => ?_)
  have hml : c.maxLocals = ls.size := hml9.trans hl.1.symm
  refine lv_iconst (v := 1) hx hb dL_law_193 (by decide) ?_
  refine lv_aload_n hx hb dL_law_194 rfl (lv_at hl 3 rfl) ?_
  refine lv_bipush (v := 10) hx hb dL_law_195 (by decide) ?_
  refine r_cell (k := 10) hx hb hml hown hG hXs hbA hS hL31 (by omega) (by decide) wM_L_12 ⟨rO, show (20 + 1 * (1 + q129)) ≤ 600086 by omega, show (200 + 6 * (1 + q129)) ≤ 7301442 by omega⟩ (Nat.le_of_ble_eq_true rfl) dL_law_197 ?_
  refine lv_iconst (v := 3) hx hb dL_law_200 (by decide) ?_
  refine r_belowN (n := 3) hx hb hml hown hG (by decide) (by decide) (by omega) wM_L_18 ⟨rO, show (20 + 1 * (1 + q129)) ≤ 600086 by omega, show (200 + 6 * (1 + q129)) ≤ 7301442 by omega⟩ (Nat.le_of_ble_eq_true rfl) dL_law_201 (fun q201 hq201 => ?_)
  refine lv_iadd hx hb dL_law_204 ?_
  rw [show (1 : Int32) + nI q201 = nI (1 + q201) from nI_add 1 q201]
  refine lv_istore (lv' := [(4, .int (nI (1 + q201))), (3, .int (nI (1 + q129))), (2, .int (nI (3 + q16))), (1, .ref s.heap.size), (0, .ref b)]) hx hb dL_law_205 hl (by decide) rfl (fun ls hl => ?_)
  have hml : c.maxLocals = ls.size := hml9.trans hl.1.symm
  refine lv_iconst (v := 0) hx hb dL_law_207 (by decide) ?_
  refine lv_istore (lv' := [(5, .int 0), (4, .int (nI (1 + q201))), (3, .int (nI (1 + q129))), (2, .int (nI (3 + q16))), (1, .ref s.heap.size), (0, .ref b)]) hx hb dL_law_208 hl (by decide) rfl (fun ls hl => ?_)
  have hml : c.maxLocals = ls.size := hml9.trans hl.1.symm
  refine W.widen (k := 30) (n := 300) (by omega) (by omega) ?_
  rw [← nI_0] at hl
  refine lc_receivers l hlf hx hb hml9 hown hG hX hAW hGx hXs hbl hL31 hS (nr := 1 + q201) (by omega) hU (Nat.le_refl _) (Nat.le_refl _) (lv_sub hl [0, 1, 2, 3, 4, 5] rfl) (fun H locs ls hU hS hl => ?_)
  have hml : c.maxLocals = ls.size := hml9.trans hl.1.symm
  refine lv_iconst (v := 0) hx hb dL_law_283 (by decide) ?_
  refine lv_istore (lv' := [(5, .int 0), (4, .int (nI (1 + q201))), (3, .int (nI (1 + q129))), (2, .int (nI (3 + q16))), (1, .ref s.heap.size), (0, .ref b)]) hx hb dL_law_284 hl (by decide) rfl (fun ls hl => ?_)
  have hml : c.maxLocals = ls.size := hml9.trans hl.1.symm
  refine lv_iconst (v := 0) hx hb dL_law_286 (by decide) ?_
  refine lv_istore (lv' := [(6, .int 0), (5, .int 0), (4, .int (nI (1 + q201))), (3, .int (nI (1 + q129))), (2, .int (nI (3 + q16))), (1, .ref s.heap.size), (0, .ref b)]) hx hb dL_law_287 hl (by decide) rfl (fun ls hl => ?_)
  have hml : c.maxLocals = ls.size := hml9.trans hl.1.symm
  refine W.widen (k := 100 + 900 * 0) (n := 2000 + 5400 * 0) (by omega) (by omega) ?_
  obtain ⟨ad, M, V, hA, hlo, hW, h50, hw, e0⟩ := hU
  rw [← nI_0, ← e0] at hl
  have hK : QX D cy p l s m c cL_law (fun q => s.heap.size ≤ q) ad (3 + q16) (1 + q129) (1 + q201) := ⟨⟨hx, hb, hown⟩, ⟨hG, hX, hGx⟩, ⟨hW.1.1, hA, hlo⟩, hlf⟩
  exact lc_turns hK hml9 hXs hbA hL31 (by omega) (by omega) (by omega) hW (sum7_0 _ h50) hw hS (lv_sub hl [0, 1, 2, 3, 4, 5, 6] rfl) (fun ep ob M V H locs ls hW hw hS hl => law_end l hlf hK hml9 hW hw hS (by omega) (by omega) hl hend)
