-- the end of a turn
set_option maxHeartbeats 4000000 in
set_option maxRecDepth 100000 in
theorem lc_tail {p : Program} {l : Launch} {e : Env} {s : State} {m : MethodId} {args : Array Value} {below : List Frame} {meth : Method} {c : Code} {H : Heap} {locs : List Loc} {cells slots : Nat} {Q : State → Prop} {ls : Array Slot} {D : va_G} {cy : Nat → ClassId} {A0 : Nat → Prop} {ad : Nat → Nat} {ns nt nr b : Nat} {M : Nat → Nat → Int32} {V : SX} {I0 : Int32} (hK : QX D cy p l s m c cL_law A0 ad ns nt nr) (hml9 : c.maxLocals = 20) {t n ep ob : Nat} (hW : JW ep n ns nt nr M) (hob : pSumR M 7 nr = nI ob) (hI : I0 ≤ pSumS M 6 ns) (hw : CW D cy ad ns nt nr M V H) (hS : va_S A0 s.heap H locs) (hc : cells + 810 ≤ 600086) (hs : slots + 4860 ≤ 7301442) (hl : lv_has ls 20 [(10, .int I0), (6, .int (nI t)), (5, .int (nI ob)), (4, .int (nI nr)), (3, .int (nI nt)), (2, .int (nI ns)), (1, .ref (ad 0)), (0, .ref b)])
    (kk : ∀ (H1 : Heap) (locs1 : List Loc) (ls1 : Array Slot), CW D cy ad ns nt nr M V H1 → va_S A0 s.heap H1 locs1 → lv_has ls1 20 [(6, .int (nI (t + 1))), (5, .int (nI ob)), (4, .int (nI nr)), (3, .int (nI nt)), (2, .int (nI ns)), (1, .ref (ad 0)), (0, .ref b)] → W p l e room_1 s m args below meth c H1 locs1 (cells + 810) (slots + 4860) Q (F0 m 289 ls1 [])) :
    W p l e room_1 s m args below meth c H locs cells slots Q (F0 m 1291 ls []) := by
  obtain ⟨⟨hx, hb, hown⟩, ⟨hG, hX, hGx⟩, ⟨hL, hA, hA0⟩, hlf⟩ := id hK
  have hml : c.maxLocals = ls.size := hml9.trans hl.1.symm
  have h1 := hL.1
  have h2 := hL.2.1
  have h3 := hL.2.2
  have rO : 7 ≤ room_1.frames ∧ 160 ≤ room_1.locals := ⟨Nat.le_of_ble_eq_true rfl, Nat.le_of_ble_eq_true rfl⟩
  refine lv_aload_n hx hb dL_law_1291 rfl (lv_at hl 6 rfl) ?_
  refine lv_bipush (v := 6) hx hb dL_law_1292 (by decide) ?_
  refine q_many (v := pSumS M 6 ns) hK hml hw hS  (by decide) rfl wM_L_33 ⟨rO, show cells + 1 ≤ 600086 by omega, show slots + 6 ≤ 7301442 by omega⟩ (Nat.le_of_ble_eq_true rfl) dL_law_1294 (fun H locs hw z1 hS => ?_)
  refine lv_iload hx hb dL_law_1297 (lv_at hl 0 rfl) ?_
  refine lv_icmp_lt (tgt := 1323) hx hb dL_law_1299 (by decide) (fun q9 => absurd q9 (Int32.not_lt.mpr hI)) (fun _ => ?_)
  refine lv_aload_n hx hb dL_law_1302 rfl (lv_at hl 6 rfl) ?_
  refine lv_bipush (v := 7) hx hb dL_law_1303 (by decide) ?_
  refine q_many (v := nI ob) hK hml hw hS  (by decide) hob wM_L_33 ⟨rO, show (cells + 1) + 1 ≤ 600086 by omega, show (slots + 6) + 6 ≤ 7301442 by omega⟩ (Nat.le_of_ble_eq_true rfl) dL_law_1305 (fun H locs hw z1 hS => ?_)
  refine lv_iload hx hb dL_law_1308 (lv_at hl 2 rfl) ?_
  refine lv_icmp_ne (tgt := 1323) hx hb dL_law_1310 (by decide) (fun q9 => absurd rfl q9) (fun _ => ?_)
  refine lv_aload_n hx hb dL_law_1313 rfl (lv_at hl 6 rfl) ?_
  refine lv_iload_n hx hb dL_law_1314 rfl (lv_at hl 5 rfl) ?_
  refine lv_iload hx hb dL_law_1315 (lv_at hl 3 rfl) ?_
  refine kc_ui (kx_S (As := [.ref (ad 0), .int (nI ns), .int (nI nr)]) (rest := []) hx hb hml hown hG (c_L_isSo l hlf D cy ad ns nt nr M V hA hW) cf_L_isSo wM_L_98 (PI.preS hG hX (hGx.sub hS hA0) hw) ⟨rfl, rfl, Nat.le_of_ble_eq_true rfl, Nat.le_of_ble_eq_true rfl⟩ rfl rfl (Nat.le_of_ble_eq_true rfl) ⟨show (cells + 2) + 800 ≤ 600086 by omega, show (slots + 12) + 4800 ≤ 7301442 by omega⟩ dL_law_1317) hS hA0 (fun r H locs hp z1 oq1 hS => ?_)
  obtain ⟨rfl, hw⟩ := hp
  refine lv_if_ne (tgt := 1325) hx hb dL_law_1320 (by decide) (fun _ => ?_) (fun q9 => absurd q9 (by decide))
  refine lv_iinc (v := (nI (t + 1))) (lv' := [(6, .int (nI (t + 1))), (10, .int I0), (5, .int (nI ob)), (4, .int (nI nr)), (3, .int (nI nt)), (2, .int (nI ns)), (1, .ref (ad 0)), (0, .ref b)]) hx hb dL_law_1325 hl (k := 1) rfl ((nI_succ t).symm) (by decide) rfl (fun ls hl => ?_)
  have hml : c.maxLocals = ls.size := hml9.trans hl.1.symm
  refine lv_goto (tgt := 289) hx hb dL_law_1328 (by decide) ?_
  refine W.widen (k := cells + 810) (n := slots + 4860) (by omega) (by omega) ?_
  exact kk H locs ls hw hS (lv_sub hl [0, 2, 3, 4, 5, 6, 7] rfl)
