-- the turns
theorem tm_ix : ∀ {t : Nat}, t < 60 → 14 + (nI t - nI t / 16 * 16) = nI (14 + t % 16) := fun {t} h => (show ∀ t, t < 60 → 14 + (nI t - nI t / 16 * 16) = nI (14 + t % 16) by decide +kernel) t h
set_option maxHeartbeats 8000000 in
set_option maxRecDepth 100000 in
theorem lc_turns {p : Program} {l : Launch} {e : Env} {s : State} {m : MethodId} {args : Array Value} {below : List Frame} {meth : Method} {c : Code} {H : Heap} {locs : List Loc} {Q : State → Prop} {ls : Array Slot} {D : va_G} {cy : Nat → ClassId} {A0 : Nat → Prop} {ad : Nat → Nat} {ns nt nr b : Nat} {M : Nat → Nat → Int32} {V : SX} {L : Nat} {xs : Nat → Int32} (hK : QX D cy p l s m c cL_law A0 ad ns nt nr) (hml9 : c.maxLocals = 20) (hXs : va_X b L xs s s.heap) (hbA : ¬ A0 b) (hL31 : L < 2 ^ 31) (hns : 0 < ns) (hnt : 0 < nt) (hnr : 0 < nr) (hW : JW 0 0 ns nt nr M) (hob : pSumR M 7 nr = nI 0) (hw : CW D cy ad ns nt nr M V H) (hS : va_S A0 s.heap H locs) (hl : lv_has ls 20 [(6, .int (nI 0)), (5, .int (nI 0)), (4, .int (nI nr)), (3, .int (nI nt)), (2, .int (nI ns)), (1, .ref (ad 0)), (0, .ref b)])
    (kend : ∀ (ep ob : Nat) (M : Nat → Nat → Int32) (V : SX) (H : Heap) (locs : List Loc) (ls : Array Slot), JW ep 60 ns nt nr M → CW D cy ad ns nt nr M V H → va_S A0 s.heap H locs → lv_has ls 20 [(4, .int (nI nr)), (3, .int (nI nt)), (2, .int (nI ns)), (1, .ref (ad 0)), (0, .ref b)] → W p l e room_1 s m args below meth c H locs (100 + 900 * 60) (2000 + 5400 * 60) Q (F0 m 1331 ls [])) :
    W p l e room_1 s m args below meth c H locs (100 + 900 * 0) (2000 + 5400 * 0) Q (F0 m 289 ls []) := by
  obtain ⟨⟨hx, hb, hown⟩, ⟨hG, hX, hGx⟩, ⟨hL, hA, hA0⟩, hlf⟩ := id hK
  have hml : c.maxLocals = ls.size := hml9.trans hl.1.symm
  have h1 := hL.1
  have h2 := hL.2.1
  have h3 := hL.2.2
  have rO : 7 ≤ room_1.frames ∧ 160 ≤ room_1.locals := ⟨Nat.le_of_ble_eq_true rfl, Nat.le_of_ble_eq_true rfl⟩
  have lp289_1 : ∀ (n9 : Nat) (t ep ob : Nat) (M : Nat → Nat → Int32) (V : SX) (H : Heap) (locs : List Loc), 61 - t ≤ n9 → t ≤ 60 → JW ep t ns nt nr M → ep ≤ 20 * t → pSumR M 7 nr = nI ob → ob ≤ t → CW D cy ad ns nt nr M V H → va_S A0 s.heap H locs →  ∀ ls : Array Slot, lv_has ls 20 [(6, .int (nI t)), (5, .int (nI ob)), (4, .int (nI nr)), (3, .int (nI nt)), (2, .int (nI ns)), (1, .ref (ad 0)), (0, .ref b)] → W p l e room_1 s m args below meth c H locs (100 + 900 * t) (2000 + 5400 * t) Q (F0 m 289 ls []) := by
    intro n9
    induction n9 with
    | zero =>
      intro t ep ob M V H locs h9
      intro h; exact absurd h9 (by omega)
    | succ n9 ih9 =>
      intro t ep ob M V H locs hn9 ht hW hep hob hobt hw hS ls hl
      have hml : c.maxLocals = ls.size := hml9.trans hl.1.symm
      refine lv_iload hx hb dL_law_289 (lv_at hl 0 rfl) ?_
      refine lv_bipush (v := 60) hx hb dL_law_291 (by decide) ?_
      refine lv_icmp_ge (tgt := 1331) hx hb dL_law_293 (by decide) (fun c_293 => ?_) (fun c_293 => ?_)
      · have et : t = 60 := Nat.le_antisymm ht ((nI_leI (a := 60) (by decide) (by omega)).mp c_293)
        subst et
        exact kend ep ob M V H locs ls hW hw hS (lv_sub hl [2, 3, 4, 5, 6] rfl)
      · have hlt : t < 60 := by
          rcases Nat.lt_or_ge t 60 with q9 | q9
          · exact q9
          · exact absurd ((nI_leI (a := 60) (by decide) (by omega)).mpr q9) c_293
        have hM0 := hW.2.1
        refine lv_aload_n hx hb dL_law_296 rfl (lv_at hl 6 rfl) ?_
        refine lv_bipush (v := 14) hx hb dL_law_297 (by decide) ?_
        refine lv_iload hx hb dL_law_299 (lv_at hl 0 rfl) ?_
        refine lv_bipush (v := 16) hx hb dL_law_301 (by decide) ?_
        refine lv_irem hx hb dL_law_303 (by decide) ?_
        refine lv_iadd hx hb dL_law_304 ?_
        refine r_cell (k := 14 + t % 16) hx hb hml hown hG hXs hbA hS hL31 (by omega) (tm_ix hlt) wM_L_12 ⟨rO, show (100 + 900 * t) ≤ 600086 by omega, show (2000 + 5400 * t) ≤ 7301442 by omega⟩ (Nat.le_of_ble_eq_true rfl) dL_law_305 ?_
        refine lv_iload hx hb dL_law_308 (lv_at hl 0 rfl) ?_
        refine lv_bipush (v := 16) hx hb dL_law_310 (by decide) ?_
        refine lv_idiv hx hb dL_law_312 (by decide) ?_
        refine lv_iconst (v := 3) hx hb dL_law_313 (by decide) ?_
        refine lv_imul hx hb dL_law_314 ?_
        refine lv_ishr hx hb dL_law_315 ?_
        refine lv_topi (fun x ex => ?_)
        refine lv_istore (lv' := [(7, .int x), (6, .int (nI t)), (5, .int (nI ob)), (4, .int (nI nr)), (3, .int (nI nt)), (2, .int (nI ns)), (1, .ref (ad 0)), (0, .ref b)]) hx hb dL_law_316 hl (by decide) rfl (fun ls hl => ?_)
        have hml : c.maxLocals = ls.size := hml9.trans hl.1.symm
        refine lv_iload hx hb dL_law_318 (lv_at hl 0 rfl) ?_
        refine lv_iconst (v := 4) hx hb dL_law_320 (by decide) ?_
        refine lv_ishr hx hb dL_law_321 ?_
        refine lv_iload_n hx hb dL_law_322 rfl (lv_at hl 5 rfl) ?_
        refine r_belowN (n := ns) hx hb hml hown hG rfl hns (by omega) wM_L_18 ⟨rO, show (100 + 900 * t) ≤ 600086 by omega, show (2000 + 5400 * t) ≤ 7301442 by omega⟩ (Nat.le_of_ble_eq_true rfl) dL_law_323 (fun q323 hq323 => ?_)
        refine lv_istore (lv' := [(8, .int (nI q323)), (7, .int x), (6, .int (nI t)), (5, .int (nI ob)), (4, .int (nI nr)), (3, .int (nI nt)), (2, .int (nI ns)), (1, .ref (ad 0)), (0, .ref b)]) hx hb dL_law_326 hl (by decide) rfl (fun ls hl => ?_)
        have hml : c.maxLocals = ls.size := hml9.trans hl.1.symm
        refine lv_iload hx hb dL_law_328 (lv_at hl 1 rfl) ?_
        refine lv_iconst (v := 5) hx hb dL_law_330 (by decide) ?_
        refine lv_ishr hx hb dL_law_331 ?_
        refine lv_iload hx hb dL_law_332 (lv_at hl 4 rfl) ?_
        refine r_belowN (n := nr) hx hb hml hown hG rfl hnr (by omega) wM_L_18 ⟨rO, show (100 + 900 * t) ≤ 600086 by omega, show (2000 + 5400 * t) ≤ 7301442 by omega⟩ (Nat.le_of_ble_eq_true rfl) dL_law_334 (fun q334 hq334 => ?_)
        refine lv_istore (lv' := [(9, .int (nI q334)), (8, .int (nI q323)), (7, .int x), (6, .int (nI t)), (5, .int (nI ob)), (4, .int (nI nr)), (3, .int (nI nt)), (2, .int (nI ns)), (1, .ref (ad 0)), (0, .ref b)]) hx hb dL_law_337 hl (by decide) rfl (fun ls hl => ?_)
        have hml : c.maxLocals = ls.size := hml9.trans hl.1.symm
        refine lv_aload_n hx hb dL_law_339 rfl (lv_at hl 8 rfl) ?_
        refine lv_bipush (v := 6) hx hb dL_law_340 (by decide) ?_
        refine q_many (v := pSumS M 6 ns) hK hml hw hS  (by decide) rfl wM_L_33 ⟨rO, show (100 + 900 * t) + 1 ≤ 600086 by omega, show (2000 + 5400 * t) + 6 ≤ 7301442 by omega⟩ (Nat.le_of_ble_eq_true rfl) dL_law_342 (fun H locs hw z1 hS => ?_)
        refine lv_istore (lv' := [(10, .int (pSumS M 6 ns)), (9, .int (nI q334)), (8, .int (nI q323)), (7, .int x), (6, .int (nI t)), (5, .int (nI ob)), (4, .int (nI nr)), (3, .int (nI nt)), (2, .int (nI ns)), (1, .ref (ad 0)), (0, .ref b)]) hx hb dL_law_345 hl (by decide) rfl (fun ls hl => ?_)
        have hml : c.maxLocals = ls.size := hml9.trans hl.1.symm
        refine lv_aload_n hx hb dL_law_347 rfl (lv_at hl 9 rfl) ?_
        refine lv_iconst (v := 0) hx hb dL_law_348 (by decide) ?_
        refine q_many (v := M 0 0) hK hml hw hS  (by decide) rfl wM_L_33 ⟨rO, show ((100 + 900 * t) + 1) + 1 ≤ 600086 by omega, show ((2000 + 5400 * t) + 6) + 6 ≤ 7301442 by omega⟩ (Nat.le_of_ble_eq_true rfl) dL_law_349 (fun H locs hw z1 hS => ?_)
        refine lv_istore (lv' := [(11, .int (M 0 0)), (10, .int (pSumS M 6 ns)), (9, .int (nI q334)), (8, .int (nI q323)), (7, .int x), (6, .int (nI t)), (5, .int (nI ob)), (4, .int (nI nr)), (3, .int (nI nt)), (2, .int (nI ns)), (1, .ref (ad 0)), (0, .ref b)]) hx hb dL_law_352 hl (by decide) rfl (fun ls hl => ?_)
        have hml : c.maxLocals = ls.size := hml9.trans hl.1.symm
        refine lv_iload hx hb dL_law_354 (lv_at hl 4 rfl) ?_
        refine lv_bipush (v := 16) hx hb dL_law_356 (by decide) ?_
        refine r_belowN (n := 16) hx hb hml hown hG (by decide) (by decide) (by omega) wM_L_18 ⟨rO, show ((100 + 900 * t) + 2) ≤ 600086 by omega, show ((2000 + 5400 * t) + 12) ≤ 7301442 by omega⟩ (Nat.le_of_ble_eq_true rfl) dL_law_358 (fun q358 hq358 => ?_)
        have hkk : ∀ (M1 : Nat → Nat → Int32) (V1 : SX) (e1 ob1 : Nat) (H1 : Heap) (locs1 : List Loc), JW e1 (t + 1) ns nt nr M1 → e1 ≤ 20 * (t + 1) → pSumR M1 7 nr = nI ob1 → ob1 ≤ t + 1 → pSumS M 6 ns ≤ pSumS M1 6 ns → CW D cy ad ns nt nr M1 V1 H1 → va_S A0 s.heap H1 locs1 → ∀ ls1 : Array Slot, lv_has ls1 20 [(10, .int (pSumS M 6 ns)), (6, .int (nI t)), (5, .int (nI ob1)), (4, .int (nI nr)), (3, .int (nI nt)), (2, .int (nI ns)), (1, .ref (ad 0)), (0, .ref b)] → W p l e room_1 s m args below meth c H1 locs1 (102 + 900 * t + 60) (2012 + 5400 * t + 360) Q (F0 m 1291 ls1 []) := fun M1 V1 e1 ob1 H1 locs1 k1 k2 k3 k4 k5 k6 k7 ls1 k8 =>
          lc_tail hK hml9 k1 k3 k5 k6 k7 (by omega) (by omega) k8 (fun H2 locs2 ls2 m1 m2 m3 => W.widen (k := 100 + 900 * (t + 1)) (n := 2000 + 5400 * (t + 1)) (by omega) (by omega) (ih9 (t + 1) e1 ob1 M1 V1 H2 locs2 (by omega) (by omega) k1 k2 k3 k4 m1 m2 ls2 m3))
        rcases (show q358 = 0 ∨ q358 = 1 ∨ q358 = 2 ∨ q358 = 3 ∨ q358 = 4 ∨ q358 = 5 ∨ q358 = 6 ∨ q358 = 7 ∨ q358 = 8 ∨ q358 = 9 ∨ q358 = 10 ∨ q358 = 11 ∨ q358 = 12 ∨ q358 = 13 ∨ q358 = 14 ∨ q358 = 15 from by omega) with rfl | rfl | rfl | rfl | rfl | rfl | rfl | rfl | rfl | rfl | rfl | rfl | rfl | rfl | rfl | rfl
        · refine lv_tableIn (off := 67) (tgt := 428) hx hb dL_law_361 (by decide) (by decide) (by decide) (by decide) ?_
          exact lc_listen hK hml9 hlt hW hep hob hobt hw hS (by omega) (by omega) (by omega) (by omega) hq323 hq334 hnt rfl (lv_sub hl [0, 1, 2, 3, 4, 5, 6, 7, 8, 9, 10, 11] rfl) hkk
        · refine lv_tableIn (off := 67) (tgt := 428) hx hb dL_law_361 (by decide) (by decide) (by decide) (by decide) ?_
          exact lc_listen hK hml9 hlt hW hep hob hobt hw hS (by omega) (by omega) (by omega) (by omega) hq323 hq334 hnt rfl (lv_sub hl [0, 1, 2, 3, 4, 5, 6, 7, 8, 9, 10, 11] rfl) hkk
        · refine lv_tableIn (off := 67) (tgt := 428) hx hb dL_law_361 (by decide) (by decide) (by decide) (by decide) ?_
          exact lc_listen hK hml9 hlt hW hep hob hobt hw hS (by omega) (by omega) (by omega) (by omega) hq323 hq334 hnt rfl (lv_sub hl [0, 1, 2, 3, 4, 5, 6, 7, 8, 9, 10, 11] rfl) hkk
        · refine lv_tableIn (off := 176) (tgt := 537) hx hb dL_law_361 (by decide) (by decide) (by decide) (by decide) ?_
          exact lc_push hK hml9 hlt hW hep hob hobt hw hS (by omega) (by omega) (by omega) (by omega) hq323 hq334 hnt rfl (lv_sub hl [0, 1, 2, 3, 4, 5, 6, 7, 8, 9, 10, 11] rfl) hkk
        · refine lv_tableIn (off := 206) (tgt := 567) hx hb dL_law_361 (by decide) (by decide) (by decide) (by decide) ?_
          exact lc_jump hK hml9 hlt hW hep hob hobt hw hS (by omega) (by omega) (by omega) (by omega) hq323 hq334 hnt rfl (lv_sub hl [0, 1, 2, 3, 4, 5, 6, 7, 8, 9, 10, 11] rfl) hkk
        · refine lv_tableIn (off := 249) (tgt := 610) hx hb dL_law_361 (by decide) (by decide) (by decide) (by decide) ?_
          exact lc_health hK hml9 hlt hW hep hob hobt hw hS (by omega) (by omega) (by omega) (by omega) hq323 hq334 hnt rfl (lv_sub hl [0, 1, 2, 3, 4, 5, 6, 7, 8, 9, 10, 11] rfl) hkk
        · refine lv_tableIn (off := 299) (tgt := 660) hx hb dL_law_361 (by decide) (by decide) (by decide) (by decide) ?_
          exact lc_go hK hml9 hlt hW hep hob hobt hw hS (by omega) (by omega) (by omega) (by omega) hq323 hq334 hnt rfl (lv_sub hl [0, 1, 2, 3, 4, 5, 6, 7, 8, 9, 10, 11] rfl) hkk
        · refine lv_tableIn (off := 334) (tgt := 695) hx hb dL_law_361 (by decide) (by decide) (by decide) (by decide) ?_
          exact lc_hills hK hml9 hlt hW hep hob hobt hw hS (by omega) (by omega) (by omega) (by omega) hq323 hq334 hnt rfl (lv_sub hl [0, 1, 2, 3, 4, 5, 6, 7, 8, 9, 10, 11] rfl) hkk
        · refine lv_tableIn (off := 371) (tgt := 732) hx hb dL_law_361 (by decide) (by decide) (by decide) (by decide) ?_
          exact lc_air hK hml9 hlt hW hep hob hobt hw hS (by omega) (by omega) (by omega) (by omega) hq323 hq334 hnt rfl (lv_sub hl [0, 1, 2, 3, 4, 5, 6, 7, 8, 9, 10, 11] rfl) hkk
        · refine lv_tableIn (off := 431) (tgt := 792) hx hb dL_law_361 (by decide) (by decide) (by decide) (by decide) ?_
          exact lc_spoof hK hml9 hlt hW hep hob hobt hw hS (by omega) (by omega) (by omega) (by omega) hq323 hq334 hnt rfl (lv_sub hl [0, 1, 2, 3, 4, 5, 6, 7, 8, 9, 10, 11] rfl) hkk
        · refine lv_tableIn (off := 460) (tgt := 821) hx hb dL_law_361 (by decide) (by decide) (by decide) (by decide) ?_
          exact lc_refer hK hml9 hlt hW hep hob hobt hw hS (by omega) (by omega) (by omega) (by omega) hq323 hq334 hnt rfl (lv_sub hl [0, 1, 2, 3, 4, 5, 6, 7, 8, 9, 10, 11] rfl) hkk
        · refine lv_tableIn (off := 498) (tgt := 859) hx hb dL_law_361 (by decide) (by decide) (by decide) (by decide) ?_
          exact lc_pass hK hml9 hlt hW hep hob hobt hw hS (by omega) (by omega) (by omega) (by omega) hq323 hq334 hnt rfl (lv_sub hl [0, 1, 2, 3, 4, 5, 6, 7, 8, 9, 10, 11] rfl) hkk
        · refine lv_tableIn (off := 498) (tgt := 859) hx hb dL_law_361 (by decide) (by decide) (by decide) (by decide) ?_
          exact lc_pass hK hml9 hlt hW hep hob hobt hw hS (by omega) (by omega) (by omega) (by omega) hq323 hq334 hnt rfl (lv_sub hl [0, 1, 2, 3, 4, 5, 6, 7, 8, 9, 10, 11] rfl) hkk
        · refine lv_tableOut (tgt := 897) hx hb dL_law_361 (by decide) (by decide) ?_
          exact lc_ahead hK hml9 hlt hW hep hob hobt hw hS (by omega) (by omega) (by omega) (by omega) hq323 hq334 hnt rfl (lv_sub hl [0, 1, 2, 3, 4, 5, 6, 7, 8, 9, 10, 11] rfl) hkk
        · refine lv_tableOut (tgt := 897) hx hb dL_law_361 (by decide) (by decide) ?_
          exact lc_ahead hK hml9 hlt hW hep hob hobt hw hS (by omega) (by omega) (by omega) (by omega) hq323 hq334 hnt rfl (lv_sub hl [0, 1, 2, 3, 4, 5, 6, 7, 8, 9, 10, 11] rfl) hkk
        · refine lv_tableOut (tgt := 897) hx hb dL_law_361 (by decide) (by decide) ?_
          exact lc_ahead hK hml9 hlt hW hep hob hobt hw hS (by omega) (by omega) (by omega) (by omega) hq323 hq334 hnt rfl (lv_sub hl [0, 1, 2, 3, 4, 5, 6, 7, 8, 9, 10, 11] rfl) hkk
  exact lp289_1 61 0 0 0 M V _ _ (Nat.le_refl _) (Nat.zero_le _) hW (Nat.le_refl _) hob (Nat.le_refl _) hw hS ls (lv_sub hl [0, 1, 2, 3, 4, 5, 6] rfl)
