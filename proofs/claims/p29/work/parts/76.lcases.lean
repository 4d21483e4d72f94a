-- the law's cases but the observation
set_option maxHeartbeats 4000000 in
set_option maxRecDepth 100000 in
theorem lc_push {p : Program} {l : Launch} {e : Env} {s : State} {m : MethodId} {args : Array Value} {below : List Frame} {meth : Method} {c : Code} {H : Heap} {locs : List Loc} {cells slots c0 s0 : Nat} {Q : State → Prop} {ls : Array Slot} {D : va_G} {cy : Nat → ClassId} {A0 : Nat → Prop} {ad : Nat → Nat} {ns nt nr b : Nat} {M : Nat → Nat → Int32} {V : SX} {I0 : Int32} (hK : QX D cy p l s m c cL_law A0 ad ns nt nr) (hml9 : c.maxLocals = 20) {t ep ob : Nat} (ht : t < 60) (hW : JW ep t ns nt nr M) (hep : ep ≤ 20 * t) (hob : pSumR M 7 nr = nI ob) (hobt : ob ≤ t) (hw : CW D cy ad ns nt nr M V H) (hS : va_S A0 s.heap H locs) (hc0 : cells ≤ c0 + 0) (hs0 : slots ≤ s0 + 0) (hc : c0 + 60 ≤ 600086) (hs : s0 + 360 ≤ 7301442) {x : Int32} {j i : Nat} (hj : j < ns) (hi : i < nr) (hnt : 0 < nt) (hI0 : I0 = pSumS M 6 ns) (hl : lv_has ls 20 [(11, .int (M 0 0)), (10, .int I0), (9, .int (nI i)), (8, .int (nI j)), (7, .int x), (6, .int (nI t)), (5, .int (nI ob)), (4, .int (nI nr)), (3, .int (nI nt)), (2, .int (nI ns)), (1, .ref (ad 0)), (0, .ref b)])
    (kk : ∀ (M1 : Nat → Nat → Int32) (V1 : SX) (e1 ob1 : Nat) (H1 : Heap) (locs1 : List Loc), JW e1 (t + 1) ns nt nr M1 → e1 ≤ 20 * (t + 1) → pSumR M1 7 nr = nI ob1 → ob1 ≤ t + 1 → I0 ≤ pSumS M1 6 ns → CW D cy ad ns nt nr M1 V1 H1 → va_S A0 s.heap H1 locs1 → ∀ ls1 : Array Slot, lv_has ls1 20 [(10, .int I0), (6, .int (nI t)), (5, .int (nI ob1)), (4, .int (nI nr)), (3, .int (nI nt)), (2, .int (nI ns)), (1, .ref (ad 0)), (0, .ref b)] → W p l e room_1 s m args below meth c H1 locs1 (c0 + 60) (s0 + 360) Q (F0 m 1291 ls1 [])) :
    W p l e room_1 s m args below meth c H locs cells slots Q (F0 m 537 ls []) := by
  obtain ⟨⟨hx, hb, hown⟩, ⟨hG, hX, hGx⟩, ⟨hL, hA, hA0⟩, hlf⟩ := id hK
  have hml : c.maxLocals = ls.size := hml9.trans hl.1.symm
  have h1 := hL.1
  have h2 := hL.2.1
  have h3 := hL.2.2
  have rO : 7 ≤ room_1.frames ∧ 160 ≤ room_1.locals := ⟨Nat.le_of_ble_eq_true rfl, Nat.le_of_ble_eq_true rfl⟩
  have hM0 := hW.2.1
  refine lv_aload_n hx hb dL_law_537 rfl (lv_at hl 10 rfl) ?_
  refine lv_iload hx hb dL_law_538 (lv_at hl 3 rfl) ?_
  refine lv_iload hx hb dL_law_540 (lv_at hl 4 rfl) ?_
  refine lv_bipush (v := 6) hx hb dL_law_542 (by decide) ?_
  refine lv_ishr hx hb dL_law_544 ?_
  refine lv_bipush (v := 11) hx hb dL_law_545 (by decide) ?_
  refine r_belowN (n := 11) hx hb hml hown hG (by decide) (by decide) (by omega) wM_L_18 ⟨rO, show cells ≤ 600086 by omega, show slots ≤ 7301442 by omega⟩ (Nat.le_of_ble_eq_true rfl) dL_law_547 (fun q547 hq547 => ?_)
  refine lv_iconst (v := 5) hx hb dL_law_550 (by decide) ?_
  refine lv_isub hx hb dL_law_551 ?_
  refine q_push (v9 := pFMod (M (10 + j) 2 + ((nI q547) - 5)) 48) hK hml hw hS hj (((IR.of_nI (k := q547) (a := 0) (b := 10) (by omega) (by omega) (by omega)).sub (show IR 5 5 5 from IR.lit (by decide)) (by decide) (by decide) (a' := -5) (b' := 5) (by decide) (by decide)).out (by decide) (by decide)) rfl wM_L_46 ⟨rO, show cells + 1 ≤ 600086 by omega, show slots + 6 ≤ 7301442 by omega⟩ (Nat.le_of_ble_eq_true rfl) dL_law_552 (fun H locs hw z1 hS => ?_)
  refine lv_aload_n hx hb dL_law_555 rfl (lv_at hl 10 rfl) ?_
  refine lv_iload hx hb dL_law_556 (lv_at hl 3 rfl) ?_
  refine lv_iconst (v := 1) hx hb dL_law_558 (by decide) ?_
  refine q_ofStar (v := pFMod (M (10 + j) 2 + ((nI q547) - 5)) 48) hK hml hw hS hj (by decide) (by rw [mset_s]; rfl) wM_L_49 ⟨rO, show (cells + 1) + 1 ≤ 600086 by omega, show (slots + 6) + 6 ≤ 7301442 by omega⟩ (Nat.le_of_ble_eq_true rfl) dL_law_559 (fun H locs hw z1 hS => ?_)
  refine lv_icmp_eq (tgt := 1291) hx hb dL_law_562 (by decide) (fun _ => ?_) (fun q9 => absurd rfl q9)
  refine W.widen (k := c0 + 60) (n := s0 + 360) (by omega) (by omega) ?_
  exact kk _ _ ep ob _ _ (hW.st1 (Nat.le_succ t) (by omega) hj (JS.push (b := ((nI q547) - 5)) ((hW.2.2.1 j hj).mono (Nat.le_refl _) (Nat.le_succ t)))) (by omega) ((obs_of (M := M) nr (fun q hq => by rw [mset_n (by omega)])).trans hob) (by omega) (le_eq hI0 (sum_set (r := upd (M (10 + j)) 2 (pFMod (M (10 + j) 2 + ((nI q547) - 5)) 48)) rfl ns)) hw hS ls (lv_sub hl [1, 5, 6, 7, 8, 9, 10, 11] rfl)
set_option maxHeartbeats 4000000 in
set_option maxRecDepth 100000 in
theorem lc_jump {p : Program} {l : Launch} {e : Env} {s : State} {m : MethodId} {args : Array Value} {below : List Frame} {meth : Method} {c : Code} {H : Heap} {locs : List Loc} {cells slots c0 s0 : Nat} {Q : State → Prop} {ls : Array Slot} {D : va_G} {cy : Nat → ClassId} {A0 : Nat → Prop} {ad : Nat → Nat} {ns nt nr b : Nat} {M : Nat → Nat → Int32} {V : SX} {I0 : Int32} (hK : QX D cy p l s m c cL_law A0 ad ns nt nr) (hml9 : c.maxLocals = 20) {t ep ob : Nat} (ht : t < 60) (hW : JW ep t ns nt nr M) (hep : ep ≤ 20 * t) (hob : pSumR M 7 nr = nI ob) (hobt : ob ≤ t) (hw : CW D cy ad ns nt nr M V H) (hS : va_S A0 s.heap H locs) (hc0 : cells ≤ c0 + 0) (hs0 : slots ≤ s0 + 0) (hc : c0 + 60 ≤ 600086) (hs : s0 + 360 ≤ 7301442) {x : Int32} {j i : Nat} (hj : j < ns) (hi : i < nr) (hnt : 0 < nt) (hI0 : I0 = pSumS M 6 ns) (hl : lv_has ls 20 [(11, .int (M 0 0)), (10, .int I0), (9, .int (nI i)), (8, .int (nI j)), (7, .int x), (6, .int (nI t)), (5, .int (nI ob)), (4, .int (nI nr)), (3, .int (nI nt)), (2, .int (nI ns)), (1, .ref (ad 0)), (0, .ref b)])
    (kk : ∀ (M1 : Nat → Nat → Int32) (V1 : SX) (e1 ob1 : Nat) (H1 : Heap) (locs1 : List Loc), JW e1 (t + 1) ns nt nr M1 → e1 ≤ 20 * (t + 1) → pSumR M1 7 nr = nI ob1 → ob1 ≤ t + 1 → I0 ≤ pSumS M1 6 ns → CW D cy ad ns nt nr M1 V1 H1 → va_S A0 s.heap H1 locs1 → ∀ ls1 : Array Slot, lv_has ls1 20 [(10, .int I0), (6, .int (nI t)), (5, .int (nI ob1)), (4, .int (nI nr)), (3, .int (nI nt)), (2, .int (nI ns)), (1, .ref (ad 0)), (0, .ref b)] → W p l e room_1 s m args below meth c H1 locs1 (c0 + 60) (s0 + 360) Q (F0 m 1291 ls1 [])) :
    W p l e room_1 s m args below meth c H locs cells slots Q (F0 m 567 ls []) := by
  obtain ⟨⟨hx, hb, hown⟩, ⟨hG, hX, hGx⟩, ⟨hL, hA, hA0⟩, hlf⟩ := id hK
  have hml : c.maxLocals = ls.size := hml9.trans hl.1.symm
  have h1 := hL.1
  have h2 := hL.2.1
  have h3 := hL.2.2
  have rO : 7 ≤ room_1.frames ∧ 160 ≤ room_1.locals := ⟨Nat.le_of_ble_eq_true rfl, Nat.le_of_ble_eq_true rfl⟩
  have hM0 := hW.2.1
  refine lv_aload_n hx hb dL_law_567 rfl (lv_at hl 10 rfl) ?_
  refine lv_iload hx hb dL_law_568 (lv_at hl 3 rfl) ?_
  refine lv_iload hx hb dL_law_570 (lv_at hl 4 rfl) ?_
  refine lv_bipush (v := 6) hx hb dL_law_572 (by decide) ?_
  refine lv_ishr hx hb dL_law_574 ?_
  refine lv_sipush (v := 199) hx hb dL_law_575 (by decide) ?_
  refine r_belowN (n := 199) hx hb hml hown hG (by decide) (by decide) (by omega) wM_L_18 ⟨rO, show cells ≤ 600086 by omega, show slots ≤ 7301442 by omega⟩ (Nat.le_of_ble_eq_true rfl) dL_law_578 (fun q578 hq578 => ?_)
  refine lv_bipush (v := 99) hx hb dL_law_581 (by decide) ?_
  refine lv_isub hx hb dL_law_583 ?_
  refine lv_iload hx hb dL_law_584 (lv_at hl 4 rfl) ?_
  refine lv_iconst (v := 3) hx hb dL_law_586 (by decide) ?_
  refine lv_ishr hx hb dL_law_587 ?_
  refine lv_bipush (v := 7) hx hb dL_law_588 (by decide) ?_
  refine r_belowN (n := 7) hx hb hml hown hG (by decide) (by decide) (by omega) wM_L_18 ⟨rO, show cells ≤ 600086 by omega, show slots ≤ 7301442 by omega⟩ (Nat.le_of_ble_eq_true rfl) dL_law_590 (fun q590 hq590 => ?_)
  refine lv_iconst (v := 3) hx hb dL_law_593 (by decide) ?_
  refine lv_isub hx hb dL_law_594 ?_
  refine q_jump (v9 := rClock (M (10 + j)) ((nI q578) - 99) 3) hK hml hw hS hj (((IR.of_nI (k := q578) (a := 0) (b := 198) (by omega) (by omega) (by omega)).sub (show IR 99 99 99 from IR.lit (by decide)) (by decide) (by decide) (a' := -99) (b' := 99) (by decide) (by decide)).out (by decide) (by decide)) (((IR.of_nI (k := q590) (a := 0) (b := 6) (by omega) (by omega) (by omega)).sub (show IR 3 3 3 from IR.lit (by decide)) (by decide) (by decide) (a' := -3) (b' := 3) (by decide) (by decide)).out (by decide) (by decide)) rfl wM_L_52 ⟨rO, show cells + 1 ≤ 600086 by omega, show slots + 6 ≤ 7301442 by omega⟩ (Nat.le_of_ble_eq_true rfl) dL_law_595 (fun H locs hw z1 hS => ?_)
  refine lv_aload_n hx hb dL_law_598 rfl (lv_at hl 10 rfl) ?_
  refine lv_iload hx hb dL_law_599 (lv_at hl 3 rfl) ?_
  refine lv_iconst (v := 3) hx hb dL_law_601 (by decide) ?_
  refine q_ofStar (v := rClock (M (10 + j)) ((nI q578) - 99) 3) hK hml hw hS hj (by decide) (by rw [mset_s]; rfl) wM_L_49 ⟨rO, show (cells + 1) + 1 ≤ 600086 by omega, show (slots + 6) + 6 ≤ 7301442 by omega⟩ (Nat.le_of_ble_eq_true rfl) dL_law_602 (fun H locs hw z1 hS => ?_)
  refine lv_icmp_eq (tgt := 1291) hx hb dL_law_605 (by decide) (fun _ => ?_) (fun q9 => absurd rfl q9)
  refine W.widen (k := c0 + 60) (n := s0 + 360) (by omega) (by omega) ?_
  exact kk _ _ ep ob _ _ (hW.st1 (Nat.le_succ t) (by omega) hj (JS.jump (o := ((nI q578) - 99)) (d := ((nI q590) - 3)) ((hW.2.2.1 j hj).mono (Nat.le_refl _) (Nat.le_succ t)))) (by omega) ((obs_of (M := M) nr (fun q hq => by rw [mset_n (by omega)])).trans hob) (by omega) (le_eq hI0 (sum_set (r := upd (rClock (M (10 + j)) ((nI q578) - 99)) 4 ((nI q590) - 3)) rfl ns)) hw hS ls (lv_sub hl [1, 5, 6, 7, 8, 9, 10, 11] rfl)
set_option maxHeartbeats 4000000 in
set_option maxRecDepth 100000 in
theorem lc_health {p : Program} {l : Launch} {e : Env} {s : State} {m : MethodId} {args : Array Value} {below : List Frame} {meth : Method} {c : Code} {H : Heap} {locs : List Loc} {cells slots c0 s0 : Nat} {Q : State → Prop} {ls : Array Slot} {D : va_G} {cy : Nat → ClassId} {A0 : Nat → Prop} {ad : Nat → Nat} {ns nt nr b : Nat} {M : Nat → Nat → Int32} {V : SX} {I0 : Int32} (hK : QX D cy p l s m c cL_law A0 ad ns nt nr) (hml9 : c.maxLocals = 20) {t ep ob : Nat} (ht : t < 60) (hW : JW ep t ns nt nr M) (hep : ep ≤ 20 * t) (hob : pSumR M 7 nr = nI ob) (hobt : ob ≤ t) (hw : CW D cy ad ns nt nr M V H) (hS : va_S A0 s.heap H locs) (hc0 : cells ≤ c0 + 0) (hs0 : slots ≤ s0 + 0) (hc : c0 + 60 ≤ 600086) (hs : s0 + 360 ≤ 7301442) {x : Int32} {j i : Nat} (hj : j < ns) (hi : i < nr) (hnt : 0 < nt) (hI0 : I0 = pSumS M 6 ns) (hl : lv_has ls 20 [(11, .int (M 0 0)), (10, .int I0), (9, .int (nI i)), (8, .int (nI j)), (7, .int x), (6, .int (nI t)), (5, .int (nI ob)), (4, .int (nI nr)), (3, .int (nI nt)), (2, .int (nI ns)), (1, .ref (ad 0)), (0, .ref b)])
    (kk : ∀ (M1 : Nat → Nat → Int32) (V1 : SX) (e1 ob1 : Nat) (H1 : Heap) (locs1 : List Loc), JW e1 (t + 1) ns nt nr M1 → e1 ≤ 20 * (t + 1) → pSumR M1 7 nr = nI ob1 → ob1 ≤ t + 1 → I0 ≤ pSumS M1 6 ns → CW D cy ad ns nt nr M1 V1 H1 → va_S A0 s.heap H1 locs1 → ∀ ls1 : Array Slot, lv_has ls1 20 [(10, .int I0), (6, .int (nI t)), (5, .int (nI ob1)), (4, .int (nI nr)), (3, .int (nI nt)), (2, .int (nI ns)), (1, .ref (ad 0)), (0, .ref b)] → W p l e room_1 s m args below meth c H1 locs1 (c0 + 60) (s0 + 360) Q (F0 m 1291 ls1 [])) :
    W p l e room_1 s m args below meth c H locs cells slots Q (F0 m 610 ls []) := by
  obtain ⟨⟨hx, hb, hown⟩, ⟨hG, hX, hGx⟩, ⟨hL, hA, hA0⟩, hlf⟩ := id hK
  have hml : c.maxLocals = ls.size := hml9.trans hl.1.symm
  have h1 := hL.1
  have h2 := hL.2.1
  have h3 := hL.2.2
  have rO : 7 ≤ room_1.frames ∧ 160 ≤ room_1.locals := ⟨Nat.le_of_ble_eq_true rfl, Nat.le_of_ble_eq_true rfl⟩
  have hM0 := hW.2.1
  have h01 : ∀ i, i < ns → ∃ b, M (10 + i) 5 = bI b := fun i hi => by
    rcases (hW.2.2.1 i hi).1.2.2.2 with z | z
    · exact ⟨false, z⟩
    · exact ⟨true, z⟩
  refine lv_iload hx hb dL_law_610 (lv_at hl 4 rfl) ?_
  refine lv_bipush (v := 6) hx hb dL_law_612 (by decide) ?_
  refine lv_ishr hx hb dL_law_614 ?_
  refine lv_iconst (v := 4) hx hb dL_law_615 (by decide) ?_
  refine r_belowN (n := 4) hx hb hml hown hG (by decide) (by decide) (by omega) wM_L_18 ⟨rO, show cells ≤ 600086 by omega, show slots ≤ 7301442 by omega⟩ (Nat.le_of_ble_eq_true rfl) dL_law_616 (fun q616 hq616 => ?_)
  refine lv_if_le (tgt := 626) hx hb dL_law_619 (by decide) (fun c_619 => ?_) (fun c_619 => ?_)
  · refine lv_iconst (v := 0) hx hb dL_law_626 (by decide) ?_
    refine lv_istore (lv' := [(12, .int 0), (11, .int (M 0 0)), (10, .int I0), (9, .int (nI i)), (8, .int (nI j)), (7, .int x), (6, .int (nI t)), (5, .int (nI ob)), (4, .int (nI nr)), (3, .int (nI nt)), (2, .int (nI ns)), (1, .ref (ad 0)), (0, .ref b)]) hx hb dL_law_627 hl (by decide) rfl (fun ls hl => ?_)
    have hml : c.maxLocals = ls.size := hml9.trans hl.1.symm
    refine lv_aload_n hx hb dL_law_629 rfl (lv_at hl 11 rfl) ?_
    refine lv_iload hx hb dL_law_630 (lv_at hl 4 rfl) ?_
    refine lv_iload hx hb dL_law_632 (lv_at hl 0 rfl) ?_
    refine q_health (v9 := M (10 + j) 5) (b := false) hK hml hw hS hj h01 rfl wM_L_55 ⟨rO, show cells + 1 ≤ 600086 by omega, show slots + 6 ≤ 7301442 by omega⟩ (Nat.le_of_ble_eq_true rfl) dL_law_634 (fun H locs hw z1 hS => ?_)
    refine lv_pop hx hb dL_law_637 rfl ?_
    refine lv_aload_n hx hb dL_law_638 rfl (lv_at hl 11 rfl) ?_
    refine lv_iload hx hb dL_law_639 (lv_at hl 4 rfl) ?_
    refine lv_iconst (v := 5) hx hb dL_law_641 (by decide) ?_
    refine q_ofStar (v := 0) hK hml hw hS hj (by decide) (by rw [mset_s]; rfl) wM_L_49 ⟨rO, show (cells + 1) + 1 ≤ 600086 by omega, show (slots + 6) + 6 ≤ 7301442 by omega⟩ (Nat.le_of_ble_eq_true rfl) dL_law_642 (fun H locs hw z1 hS => ?_)
    refine lv_iload hx hb dL_law_645 (lv_at hl 0 rfl) ?_
    refine lv_if_eq (tgt := 654) hx hb dL_law_647 (by decide) (fun _ => ?_) (fun q9 => absurd rfl q9)
    refine lv_iconst (v := 0) hx hb dL_law_654 (by decide) ?_
    refine lv_icmp_eq (tgt := 1291) hx hb dL_law_655 (by decide) (fun _ => ?_) (fun q9 => absurd rfl q9)
    refine W.widen (k := c0 + 60) (n := s0 + 360) (by omega) (by omega) ?_
    exact kk _ _ ep ob _ _ (hW.st1 (Nat.le_succ t) (by omega) hj (JS.health (b := false) ((hW.2.2.1 j hj).mono (Nat.le_refl _) (Nat.le_succ t)))) (by omega) ((obs_of (M := M) nr (fun q hq => by rw [mset_n (by omega)])).trans hob) (by omega) (le_eq hI0 (sum_set (r := upd (M (10 + j)) 5 (bI false)) rfl ns)) hw hS ls (lv_sub hl [2, 6, 7, 8, 9, 10, 11, 12] rfl)
  · refine lv_iconst (v := 1) hx hb dL_law_622 (by decide) ?_
    refine lv_goto (tgt := 627) hx hb dL_law_623 (by decide) ?_
    refine lv_istore (lv' := [(12, .int 1), (11, .int (M 0 0)), (10, .int I0), (9, .int (nI i)), (8, .int (nI j)), (7, .int x), (6, .int (nI t)), (5, .int (nI ob)), (4, .int (nI nr)), (3, .int (nI nt)), (2, .int (nI ns)), (1, .ref (ad 0)), (0, .ref b)]) hx hb dL_law_627 hl (by decide) rfl (fun ls hl => ?_)
    have hml : c.maxLocals = ls.size := hml9.trans hl.1.symm
    refine lv_aload_n hx hb dL_law_629 rfl (lv_at hl 11 rfl) ?_
    refine lv_iload hx hb dL_law_630 (lv_at hl 4 rfl) ?_
    refine lv_iload hx hb dL_law_632 (lv_at hl 0 rfl) ?_
    refine q_health (v9 := M (10 + j) 5) (b := true) hK hml hw hS hj h01 rfl wM_L_55 ⟨rO, show cells + 1 ≤ 600086 by omega, show slots + 6 ≤ 7301442 by omega⟩ (Nat.le_of_ble_eq_true rfl) dL_law_634 (fun H locs hw z1 hS => ?_)
    refine lv_pop hx hb dL_law_637 rfl ?_
    refine lv_aload_n hx hb dL_law_638 rfl (lv_at hl 11 rfl) ?_
    refine lv_iload hx hb dL_law_639 (lv_at hl 4 rfl) ?_
    refine lv_iconst (v := 5) hx hb dL_law_641 (by decide) ?_
    refine q_ofStar (v := 1) hK hml hw hS hj (by decide) (by rw [mset_s]; rfl) wM_L_49 ⟨rO, show (cells + 1) + 1 ≤ 600086 by omega, show (slots + 6) + 6 ≤ 7301442 by omega⟩ (Nat.le_of_ble_eq_true rfl) dL_law_642 (fun H locs hw z1 hS => ?_)
    refine lv_iload hx hb dL_law_645 (lv_at hl 0 rfl) ?_
    refine lv_if_eq (tgt := 654) hx hb dL_law_647 (by decide) (fun q9 => absurd q9 (by decide)) (fun _ => ?_)
    refine lv_iconst (v := 1) hx hb dL_law_650 (by decide) ?_
    refine lv_goto (tgt := 655) hx hb dL_law_651 (by decide) ?_
    refine lv_icmp_eq (tgt := 1291) hx hb dL_law_655 (by decide) (fun _ => ?_) (fun q9 => absurd rfl q9)
    refine W.widen (k := c0 + 60) (n := s0 + 360) (by omega) (by omega) ?_
    exact kk _ _ ep ob _ _ (hW.st1 (Nat.le_succ t) (by omega) hj (JS.health (b := true) ((hW.2.2.1 j hj).mono (Nat.le_refl _) (Nat.le_succ t)))) (by omega) ((obs_of (M := M) nr (fun q hq => by rw [mset_n (by omega)])).trans hob) (by omega) (le_eq hI0 (sum_set (r := upd (M (10 + j)) 5 (bI true)) rfl ns)) hw hS ls (lv_sub hl [2, 6, 7, 8, 9, 10, 11, 12] rfl)
set_option maxHeartbeats 4000000 in
set_option maxRecDepth 100000 in
theorem lc_go {p : Program} {l : Launch} {e : Env} {s : State} {m : MethodId} {args : Array Value} {below : List Frame} {meth : Method} {c : Code} {H : Heap} {locs : List Loc} {cells slots c0 s0 : Nat} {Q : State → Prop} {ls : Array Slot} {D : va_G} {cy : Nat → ClassId} {A0 : Nat → Prop} {ad : Nat → Nat} {ns nt nr b : Nat} {M : Nat → Nat → Int32} {V : SX} {I0 : Int32} (hK : QX D cy p l s m c cL_law A0 ad ns nt nr) (hml9 : c.maxLocals = 20) {t ep ob : Nat} (ht : t < 60) (hW : JW ep t ns nt nr M) (hep : ep ≤ 20 * t) (hob : pSumR M 7 nr = nI ob) (hobt : ob ≤ t) (hw : CW D cy ad ns nt nr M V H) (hS : va_S A0 s.heap H locs) (hc0 : cells ≤ c0 + 0) (hs0 : slots ≤ s0 + 0) (hc : c0 + 60 ≤ 600086) (hs : s0 + 360 ≤ 7301442) {x : Int32} {j i : Nat} (hj : j < ns) (hi : i < nr) (hnt : 0 < nt) (hI0 : I0 = pSumS M 6 ns) (hl : lv_has ls 20 [(11, .int (M 0 0)), (10, .int I0), (9, .int (nI i)), (8, .int (nI j)), (7, .int x), (6, .int (nI t)), (5, .int (nI ob)), (4, .int (nI nr)), (3, .int (nI nt)), (2, .int (nI ns)), (1, .ref (ad 0)), (0, .ref b)])
    (kk : ∀ (M1 : Nat → Nat → Int32) (V1 : SX) (e1 ob1 : Nat) (H1 : Heap) (locs1 : List Loc), JW e1 (t + 1) ns nt nr M1 → e1 ≤ 20 * (t + 1) → pSumR M1 7 nr = nI ob1 → ob1 ≤ t + 1 → I0 ≤ pSumS M1 6 ns → CW D cy ad ns nt nr M1 V1 H1 → va_S A0 s.heap H1 locs1 → ∀ ls1 : Array Slot, lv_has ls1 20 [(10, .int I0), (6, .int (nI t)), (5, .int (nI ob1)), (4, .int (nI nr)), (3, .int (nI nt)), (2, .int (nI ns)), (1, .ref (ad 0)), (0, .ref b)] → W p l e room_1 s m args below meth c H1 locs1 (c0 + 60) (s0 + 360) Q (F0 m 1291 ls1 [])) :
    W p l e room_1 s m args below meth c H locs cells slots Q (F0 m 660 ls []) := by
  obtain ⟨⟨hx, hb, hown⟩, ⟨hG, hX, hGx⟩, ⟨hL, hA, hA0⟩, hlf⟩ := id hK
  have hml : c.maxLocals = ls.size := hml9.trans hl.1.symm
  have h1 := hL.1
  have h2 := hL.2.1
  have h3 := hL.2.2
  have rO : 7 ≤ room_1.frames ∧ 160 ≤ room_1.locals := ⟨Nat.le_of_ble_eq_true rfl, Nat.le_of_ble_eq_true rfl⟩
  have hM0 := hW.2.1
  have hR := (hW.2.2.2.2 i hi).1
  refine lv_aload_n hx hb dL_law_660 rfl (lv_at hl 10 rfl) ?_
  refine lv_iload hx hb dL_law_661 (lv_at hl 2 rfl) ?_
  refine lv_iload hx hb dL_law_663 (lv_at hl 4 rfl) ?_
  refine lv_bipush (v := 6) hx hb dL_law_665 (by decide) ?_
  refine lv_ishr hx hb dL_law_667 ?_
  refine lv_bipush (v := 25) hx hb dL_law_668 (by decide) ?_
  refine r_belowN (n := 25) hx hb hml hown hG (by decide) (by decide) (by omega) wM_L_18 ⟨rO, show cells ≤ 600086 by omega, show slots ≤ 7301442 by omega⟩ (Nat.le_of_ble_eq_true rfl) dL_law_670 (fun q670 hq670 => ?_)
  refine lv_bipush (v := 12) hx hb dL_law_673 (by decide) ?_
  refine lv_isub hx hb dL_law_675 ?_
  refine lv_iload hx hb dL_law_676 (lv_at hl 4 rfl) ?_
  refine lv_iconst (v := 4) hx hb dL_law_678 (by decide) ?_
  refine lv_ishr hx hb dL_law_679 ?_
  refine lv_bipush (v := 13) hx hb dL_law_680 (by decide) ?_
  refine r_belowN (n := 13) hx hb hml hown hG (by decide) (by decide) (by omega) wM_L_18 ⟨rO, show cells ≤ 600086 by omega, show slots ≤ 7301442 by omega⟩ (Nat.le_of_ble_eq_true rfl) dL_law_682 (fun q682 hq682 => ?_)
  refine q_go (v9 := pRange (M (30 + i) 4) (M (30 + i) 5) ((nI q670) - 12) (nI q682)) hK hml hw hS hi (((IR.of_nI (k := q670) (a := 0) (b := 24) (by omega) (by omega) (by omega)).sub (show IR 12 12 12 from IR.lit (by decide)) (by decide) (by decide) (a' := -12) (b' := 12) (by decide) (by decide)).out (by decide) (by decide)) ((IR.of_nI (k := q682) (a := 0) (b := 12) (by omega) (by omega) (by omega)).out (by decide) (by decide)) rfl wM_L_59 ⟨rO, show cells + 1 ≤ 600086 by omega, show slots + 6 ≤ 7301442 by omega⟩ (Nat.le_of_ble_eq_true rfl) dL_law_685 (fun H locs hw z1 hS => ?_)
  have hu12 : Bd ((nI q670) - 12) 12 := ((IR.of_nI (k := q670) (a := 0) (b := 24) (by omega) (by omega) (by omega)).sub (show IR 12 12 12 from IR.lit (by decide)) (by decide) (by decide) (a' := -12) (b' := 12) (by decide) (by decide)).bd (by decide) (by decide)
  have hw12 : IR (nI q682) 0 12 := IR.of_nI (by omega) (by omega) (by omega)
  refine lv_bipush (v := 24) hx hb dL_law_688 (by decide) ?_
  refine lv_icmp_le (tgt := 1291) hx hb dL_law_690 (by decide) (fun _ => ?_) (fun q9 => absurd (f_go hR hu12 hw12) q9)
  refine W.widen (k := c0 + 60) (n := s0 + 360) (by omega) (by omega) ?_
  exact kk _ _ ep ob _ _ (hW.rc1 (Nat.le_succ t) (by omega) hi (JR.go (u := ((nI q670) - 12)) (w := (nI q682)) hR hu12 hw12)) (by omega) ((obs_of (M := M) nr (fun q hq => by rw [mset_n (by omega)])).trans hob) (by omega) (le_eq hI0 (sum_of (M := M) ns (fun q hq => by rw [mset_n (by omega)]))) hw hS ls (lv_sub hl [1, 5, 6, 7, 8, 9, 10, 11] rfl)
set_option maxHeartbeats 4000000 in
set_option maxRecDepth 100000 in
theorem lc_hills {p : Program} {l : Launch} {e : Env} {s : State} {m : MethodId} {args : Array Value} {below : List Frame} {meth : Method} {c : Code} {H : Heap} {locs : List Loc} {cells slots c0 s0 : Nat} {Q : State → Prop} {ls : Array Slot} {D : va_G} {cy : Nat → ClassId} {A0 : Nat → Prop} {ad : Nat → Nat} {ns nt nr b : Nat} {M : Nat → Nat → Int32} {V : SX} {I0 : Int32} (hK : QX D cy p l s m c cL_law A0 ad ns nt nr) (hml9 : c.maxLocals = 20) {t ep ob : Nat} (ht : t < 60) (hW : JW ep t ns nt nr M) (hep : ep ≤ 20 * t) (hob : pSumR M 7 nr = nI ob) (hobt : ob ≤ t) (hw : CW D cy ad ns nt nr M V H) (hS : va_S A0 s.heap H locs) (hc0 : cells ≤ c0 + 0) (hs0 : slots ≤ s0 + 0) (hc : c0 + 60 ≤ 600086) (hs : s0 + 360 ≤ 7301442) {x : Int32} {j i : Nat} (hj : j < ns) (hi : i < nr) (hnt : 0 < nt) (hI0 : I0 = pSumS M 6 ns) (hl : lv_has ls 20 [(11, .int (M 0 0)), (10, .int I0), (9, .int (nI i)), (8, .int (nI j)), (7, .int x), (6, .int (nI t)), (5, .int (nI ob)), (4, .int (nI nr)), (3, .int (nI nt)), (2, .int (nI ns)), (1, .ref (ad 0)), (0, .ref b)])
    (kk : ∀ (M1 : Nat → Nat → Int32) (V1 : SX) (e1 ob1 : Nat) (H1 : Heap) (locs1 : List Loc), JW e1 (t + 1) ns nt nr M1 → e1 ≤ 20 * (t + 1) → pSumR M1 7 nr = nI ob1 → ob1 ≤ t + 1 → I0 ≤ pSumS M1 6 ns → CW D cy ad ns nt nr M1 V1 H1 → va_S A0 s.heap H1 locs1 → ∀ ls1 : Array Slot, lv_has ls1 20 [(10, .int I0), (6, .int (nI t)), (5, .int (nI ob1)), (4, .int (nI nr)), (3, .int (nI nt)), (2, .int (nI ns)), (1, .ref (ad 0)), (0, .ref b)] → W p l e room_1 s m args below meth c H1 locs1 (c0 + 60) (s0 + 360) Q (F0 m 1291 ls1 [])) :
    W p l e room_1 s m args below meth c H locs cells slots Q (F0 m 695 ls []) := by
  obtain ⟨⟨hx, hb, hown⟩, ⟨hG, hX, hGx⟩, ⟨hL, hA, hA0⟩, hlf⟩ := id hK
  have hml : c.maxLocals = ls.size := hml9.trans hl.1.symm
  have h1 := hL.1
  have h2 := hL.2.1
  have h3 := hL.2.2
  have rO : 7 ≤ room_1.frames ∧ 160 ≤ room_1.locals := ⟨Nat.le_of_ble_eq_true rfl, Nat.le_of_ble_eq_true rfl⟩
  have hM0 := hW.2.1
  have hR := (hW.2.2.2.2 i hi).1
  refine lv_aload_n hx hb dL_law_695 rfl (lv_at hl 10 rfl) ?_
  refine lv_iload hx hb dL_law_696 (lv_at hl 2 rfl) ?_
  refine lv_iload hx hb dL_law_698 (lv_at hl 4 rfl) ?_
  refine lv_bipush (v := 6) hx hb dL_law_700 (by decide) ?_
  refine lv_ishr hx hb dL_law_702 ?_
  refine lv_bipush (v := 61) hx hb dL_law_703 (by decide) ?_
  refine r_belowN (n := 61) hx hb hml hown hG (by decide) (by decide) (by omega) wM_L_18 ⟨rO, show cells ≤ 600086 by omega, show slots ≤ 7301442 by omega⟩ (Nat.le_of_ble_eq_true rfl) dL_law_705 (fun q705 hq705 => ?_)
  refine lv_iload hx hb dL_law_708 (lv_at hl 4 rfl) ?_
  refine lv_iconst (v := 4) hx hb dL_law_710 (by decide) ?_
  refine lv_ishr hx hb dL_law_711 ?_
  refine lv_bipush (v := 61) hx hb dL_law_712 (by decide) ?_
  refine r_belowN (n := 61) hx hb hml hown hG (by decide) (by decide) (by omega) wM_L_18 ⟨rO, show cells ≤ 600086 by omega, show slots ≤ 7301442 by omega⟩ (Nat.le_of_ble_eq_true rfl) dL_law_714 (fun q714 hq714 => ?_)
  refine q_hills (v9 := pBits (pSet (upd (upd (M (30 + i)) 6 (nI q705)) 7 (nI q714)) M 0 ns)) hK hml hw hS hi ((IR.of_nI (k := q705) (a := 0) (b := 60) (by omega) (by omega) (by omega)).out (by decide) (by decide)) ((IR.of_nI (k := q714) (a := 0) (b := 60) (by omega) (by omega) (by omega)).out (by decide) (by decide)) rfl wM_L_62 ⟨rO, show cells + 1 ≤ 600086 by omega, show slots + 6 ≤ 7301442 by omega⟩ (Nat.le_of_ble_eq_true rfl) dL_law_717 (fun H locs hw z1 hS => ?_)
  refine lv_aload_n hx hb dL_law_720 rfl (lv_at hl 10 rfl) ?_
  refine lv_iload hx hb dL_law_721 (lv_at hl 2 rfl) ?_
  refine lv_iconst (v := 2) hx hb dL_law_723 (by decide) ?_
  refine q_ofReceiver (v := pBits (pSet (upd (upd (M (30 + i)) 6 (nI q705)) 7 (nI q714)) M 0 ns)) hK hml hw hS hi (by decide) (f_hills (by omega)) wM_L_65 ⟨rO, show (cells + 1) + 1 ≤ 600086 by omega, show (slots + 6) + 6 ≤ 7301442 by omega⟩ (Nat.le_of_ble_eq_true rfl) dL_law_724 (fun H locs hw z1 hS => ?_)
  refine lv_icmp_eq (tgt := 1291) hx hb dL_law_727 (by decide) (fun _ => ?_) (fun q9 => absurd rfl q9)
  refine W.widen (k := c0 + 60) (n := s0 + 360) (by omega) (by omega) ?_
  exact kk _ _ ep ob _ _ (hW.rc1 (Nat.le_succ t) (by omega) hi (JR.hills (u := (nI q705)) (w := (nI q714)) hR)) (by omega) ((obs_of (M := M) nr (fun q hq => by rw [mset_n (by omega)])).trans hob) (by omega) (le_eq hI0 (sum_of (M := M) ns (fun q hq => by rw [mset_n (by omega)]))) hw hS ls (lv_sub hl [1, 5, 6, 7, 8, 9, 10, 11] rfl)
set_option maxHeartbeats 4000000 in
set_option maxRecDepth 100000 in
theorem lc_air {p : Program} {l : Launch} {e : Env} {s : State} {m : MethodId} {args : Array Value} {below : List Frame} {meth : Method} {c : Code} {H : Heap} {locs : List Loc} {cells slots c0 s0 : Nat} {Q : State → Prop} {ls : Array Slot} {D : va_G} {cy : Nat → ClassId} {A0 : Nat → Prop} {ad : Nat → Nat} {ns nt nr b : Nat} {M : Nat → Nat → Int32} {V : SX} {I0 : Int32} (hK : QX D cy p l s m c cL_law A0 ad ns nt nr) (hml9 : c.maxLocals = 20) {t ep ob : Nat} (ht : t < 60) (hW : JW ep t ns nt nr M) (hep : ep ≤ 20 * t) (hob : pSumR M 7 nr = nI ob) (hobt : ob ≤ t) (hw : CW D cy ad ns nt nr M V H) (hS : va_S A0 s.heap H locs) (hc0 : cells ≤ c0 + 0) (hs0 : slots ≤ s0 + 0) (hc : c0 + 60 ≤ 600086) (hs : s0 + 360 ≤ 7301442) {x : Int32} {j i : Nat} (hj : j < ns) (hi : i < nr) (hnt : 0 < nt) (hI0 : I0 = pSumS M 6 ns) (hl : lv_has ls 20 [(11, .int (M 0 0)), (10, .int I0), (9, .int (nI i)), (8, .int (nI j)), (7, .int x), (6, .int (nI t)), (5, .int (nI ob)), (4, .int (nI nr)), (3, .int (nI nt)), (2, .int (nI ns)), (1, .ref (ad 0)), (0, .ref b)])
    (kk : ∀ (M1 : Nat → Nat → Int32) (V1 : SX) (e1 ob1 : Nat) (H1 : Heap) (locs1 : List Loc), JW e1 (t + 1) ns nt nr M1 → e1 ≤ 20 * (t + 1) → pSumR M1 7 nr = nI ob1 → ob1 ≤ t + 1 → I0 ≤ pSumS M1 6 ns → CW D cy ad ns nt nr M1 V1 H1 → va_S A0 s.heap H1 locs1 → ∀ ls1 : Array Slot, lv_has ls1 20 [(10, .int I0), (6, .int (nI t)), (5, .int (nI ob1)), (4, .int (nI nr)), (3, .int (nI nt)), (2, .int (nI ns)), (1, .ref (ad 0)), (0, .ref b)] → W p l e room_1 s m args below meth c H1 locs1 (c0 + 60) (s0 + 360) Q (F0 m 1291 ls1 [])) :
    W p l e room_1 s m args below meth c H locs cells slots Q (F0 m 732 ls []) := by
  obtain ⟨⟨hx, hb, hown⟩, ⟨hG, hX, hGx⟩, ⟨hL, hA, hA0⟩, hlf⟩ := id hK
  have hml : c.maxLocals = ls.size := hml9.trans hl.1.symm
  have h1 := hL.1
  have h2 := hL.2.1
  have h3 := hL.2.2
  have rO : 7 ≤ room_1.frames ∧ 160 ≤ room_1.locals := ⟨Nat.le_of_ble_eq_true rfl, Nat.le_of_ble_eq_true rfl⟩
  have hM0 := hW.2.1
  have hR := (hW.2.2.2.2 i hi).1
  refine lv_aload_n hx hb dL_law_732 rfl (lv_at hl 10 rfl) ?_
  refine lv_iload hx hb dL_law_733 (lv_at hl 2 rfl) ?_
  refine lv_iload hx hb dL_law_735 (lv_at hl 4 rfl) ?_
  refine lv_bipush (v := 6) hx hb dL_law_737 (by decide) ?_
  refine lv_ishr hx hb dL_law_739 ?_
  refine lv_bipush (v := 10) hx hb dL_law_740 (by decide) ?_
  refine r_belowN (n := 10) hx hb hml hown hG (by decide) (by decide) (by omega) wM_L_18 ⟨rO, show cells ≤ 600086 by omega, show slots ≤ 7301442 by omega⟩ (Nat.le_of_ble_eq_true rfl) dL_law_742 (fun q742 hq742 => ?_)
  refine lv_iload hx hb dL_law_745 (lv_at hl 4 rfl) ?_
  refine lv_iconst (v := 4) hx hb dL_law_747 (by decide) ?_
  refine lv_ishr hx hb dL_law_748 ?_
  refine lv_iconst (v := 2) hx hb dL_law_749 (by decide) ?_
  refine r_belowN (n := 2) hx hb hml hown hG (by decide) (by decide) (by omega) wM_L_18 ⟨rO, show cells ≤ 600086 by omega, show slots ≤ 7301442 by omega⟩ (Nat.le_of_ble_eq_true rfl) dL_law_750 (fun q750 hq750 => ?_)
  refine lv_if_ne (tgt := 760) hx hb dL_law_753 (by decide) (fun c_753 => ?_) (fun c_753 => ?_)
  · refine lv_iconst (v := 0) hx hb dL_law_760 (by decide) ?_
    refine q_air (v9 := M (30 + i) 8) (b := false) hK hml hw hS hi ((IR.of_nI (k := q742) (a := 0) (b := 9) (by omega) (by omega) (by omega)).out (by decide) (by decide)) rfl wM_L_68 ⟨rO, show cells + 1 ≤ 600086 by omega, show slots + 6 ≤ 7301442 by omega⟩ (Nat.le_of_ble_eq_true rfl) dL_law_761 (fun H locs hw z1 hS => ?_)
    have hR1 : JR nr i (upd (upd (M (30 + i)) 8 (nI q742)) 9 (bI false)) := JR.air hR (IR.of_nI (by omega) (by omega) (by omega))
    refine lv_bipush (v := 9) hx hb dL_law_764 (by decide) ?_
    refine lv_icmp_gt (tgt := 790) hx hb dL_law_766 (by decide) (fun q9 => absurd q9 (hR.2.2.2.2.2.2.1.ngt (by decide))) (fun _ => ?_)
    refine lv_aload_n hx hb dL_law_769 rfl (lv_at hl 10 rfl) ?_
    refine lv_iload hx hb dL_law_770 (lv_at hl 2 rfl) ?_
    refine lv_iconst (v := 1) hx hb dL_law_772 (by decide) ?_
    refine lv_iload hx hb dL_law_773 (lv_at hl 4 rfl) ?_
    refine lv_iconst (v := 3) hx hb dL_law_775 (by decide) ?_
    refine lv_ishr hx hb dL_law_776 ?_
    refine lv_bipush (v := 24) hx hb dL_law_777 (by decide) ?_
    refine r_belowN (n := 24) hx hb hml hown hG (by decide) (by decide) (by omega) wM_L_18 ⟨rO, show (cells + 1) ≤ 600086 by omega, show (slots + 6) ≤ 7301442 by omega⟩ (Nat.le_of_ble_eq_true rfl) dL_law_779 (fun q779 hq779 => ?_)
    refine lv_iadd hx hb dL_law_782 ?_
    refine q_alert (v9 := M (30 + i) 10) hK hml hw hS hi (((show IR 1 1 1 from IR.lit (by decide)).add (IR.of_nI (k := q779) (a := 0) (b := 23) (by omega) (by omega) (by omega)) (by decide) (by decide) (a' := 1) (b' := 24) (by decide) (by decide)).out (by decide) (by decide)) (by rw [mset_s]; rfl) wM_L_72 ⟨rO, show (cells + 1) + 1 ≤ 600086 by omega, show (slots + 6) + 6 ≤ 7301442 by omega⟩ (Nat.le_of_ble_eq_true rfl) dL_law_783 (fun H locs hw z1 hS => ?_)
    rw [mset_mset, mset_s] at hw
    refine lv_iconst (v := 1) hx hb dL_law_786 (by decide) ?_
    refine lv_icmp_ge (tgt := 1291) hx hb dL_law_787 (by decide) (fun _ => ?_) (fun q9 => absurd (hR.2.2.2.2.2.2.2.1.ge (by decide)) q9)
    refine W.widen (k := c0 + 60) (n := s0 + 360) (by omega) (by omega) ?_
    exact kk _ _ ep ob _ _ (hW.rc1 (Nat.le_succ t) (by omega) hi (JR.alert (w := (1 + (nI q779))) hR1 ((show IR 1 1 1 from IR.lit (by decide)).add (IR.of_nI (k := q779) (a := 0) (b := 23) (by omega) (by omega) (by omega)) (by decide) (by decide) (by decide) (by decide)))) (by omega) ((obs_of (M := M) nr (fun q hq => by rw [mset_n (by omega)])).trans hob) (by omega) (le_eq hI0 (sum_of (M := M) ns (fun q hq => by rw [mset_n (by omega)]))) hw hS ls (lv_sub hl [1, 5, 6, 7, 8, 9, 10, 11] rfl)
  · refine lv_iconst (v := 1) hx hb dL_law_756 (by decide) ?_
    refine lv_goto (tgt := 761) hx hb dL_law_757 (by decide) ?_
    refine q_air (v9 := M (30 + i) 8) (b := true) hK hml hw hS hi ((IR.of_nI (k := q742) (a := 0) (b := 9) (by omega) (by omega) (by omega)).out (by decide) (by decide)) rfl wM_L_68 ⟨rO, show cells + 1 ≤ 600086 by omega, show slots + 6 ≤ 7301442 by omega⟩ (Nat.le_of_ble_eq_true rfl) dL_law_761 (fun H locs hw z1 hS => ?_)
    have hR1 : JR nr i (upd (upd (M (30 + i)) 8 (nI q742)) 9 (bI true)) := JR.air hR (IR.of_nI (by omega) (by omega) (by omega))
    refine lv_bipush (v := 9) hx hb dL_law_764 (by decide) ?_
    refine lv_icmp_gt (tgt := 790) hx hb dL_law_766 (by decide) (fun q9 => absurd q9 (hR.2.2.2.2.2.2.1.ngt (by decide))) (fun _ => ?_)
    refine lv_aload_n hx hb dL_law_769 rfl (lv_at hl 10 rfl) ?_
    refine lv_iload hx hb dL_law_770 (lv_at hl 2 rfl) ?_
    refine lv_iconst (v := 1) hx hb dL_law_772 (by decide) ?_
    refine lv_iload hx hb dL_law_773 (lv_at hl 4 rfl) ?_
    refine lv_iconst (v := 3) hx hb dL_law_775 (by decide) ?_
    refine lv_ishr hx hb dL_law_776 ?_
    refine lv_bipush (v := 24) hx hb dL_law_777 (by decide) ?_
    refine r_belowN (n := 24) hx hb hml hown hG (by decide) (by decide) (by omega) wM_L_18 ⟨rO, show (cells + 1) ≤ 600086 by omega, show (slots + 6) ≤ 7301442 by omega⟩ (Nat.le_of_ble_eq_true rfl) dL_law_779 (fun q779 hq779 => ?_)
    refine lv_iadd hx hb dL_law_782 ?_
    refine q_alert (v9 := M (30 + i) 10) hK hml hw hS hi (((show IR 1 1 1 from IR.lit (by decide)).add (IR.of_nI (k := q779) (a := 0) (b := 23) (by omega) (by omega) (by omega)) (by decide) (by decide) (a' := 1) (b' := 24) (by decide) (by decide)).out (by decide) (by decide)) (by rw [mset_s]; rfl) wM_L_72 ⟨rO, show (cells + 1) + 1 ≤ 600086 by omega, show (slots + 6) + 6 ≤ 7301442 by omega⟩ (Nat.le_of_ble_eq_true rfl) dL_law_783 (fun H locs hw z1 hS => ?_)
    rw [mset_mset, mset_s] at hw
    refine lv_iconst (v := 1) hx hb dL_law_786 (by decide) ?_
    refine lv_icmp_ge (tgt := 1291) hx hb dL_law_787 (by decide) (fun _ => ?_) (fun q9 => absurd (hR.2.2.2.2.2.2.2.1.ge (by decide)) q9)
    refine W.widen (k := c0 + 60) (n := s0 + 360) (by omega) (by omega) ?_
    exact kk _ _ ep ob _ _ (hW.rc1 (Nat.le_succ t) (by omega) hi (JR.alert (w := (1 + (nI q779))) hR1 ((show IR 1 1 1 from IR.lit (by decide)).add (IR.of_nI (k := q779) (a := 0) (b := 23) (by omega) (by omega) (by omega)) (by decide) (by decide) (by decide) (by decide)))) (by omega) ((obs_of (M := M) nr (fun q hq => by rw [mset_n (by omega)])).trans hob) (by omega) (le_eq hI0 (sum_of (M := M) ns (fun q hq => by rw [mset_n (by omega)]))) hw hS ls (lv_sub hl [1, 5, 6, 7, 8, 9, 10, 11] rfl)
set_option maxHeartbeats 4000000 in
set_option maxRecDepth 100000 in
theorem lc_spoof {p : Program} {l : Launch} {e : Env} {s : State} {m : MethodId} {args : Array Value} {below : List Frame} {meth : Method} {c : Code} {H : Heap} {locs : List Loc} {cells slots c0 s0 : Nat} {Q : State → Prop} {ls : Array Slot} {D : va_G} {cy : Nat → ClassId} {A0 : Nat → Prop} {ad : Nat → Nat} {ns nt nr b : Nat} {M : Nat → Nat → Int32} {V : SX} {I0 : Int32} (hK : QX D cy p l s m c cL_law A0 ad ns nt nr) (hml9 : c.maxLocals = 20) {t ep ob : Nat} (ht : t < 60) (hW : JW ep t ns nt nr M) (hep : ep ≤ 20 * t) (hob : pSumR M 7 nr = nI ob) (hobt : ob ≤ t) (hw : CW D cy ad ns nt nr M V H) (hS : va_S A0 s.heap H locs) (hc0 : cells ≤ c0 + 0) (hs0 : slots ≤ s0 + 0) (hc : c0 + 60 ≤ 600086) (hs : s0 + 360 ≤ 7301442) {x : Int32} {j i : Nat} (hj : j < ns) (hi : i < nr) (hnt : 0 < nt) (hI0 : I0 = pSumS M 6 ns) (hl : lv_has ls 20 [(11, .int (M 0 0)), (10, .int I0), (9, .int (nI i)), (8, .int (nI j)), (7, .int x), (6, .int (nI t)), (5, .int (nI ob)), (4, .int (nI nr)), (3, .int (nI nt)), (2, .int (nI ns)), (1, .ref (ad 0)), (0, .ref b)])
    (kk : ∀ (M1 : Nat → Nat → Int32) (V1 : SX) (e1 ob1 : Nat) (H1 : Heap) (locs1 : List Loc), JW e1 (t + 1) ns nt nr M1 → e1 ≤ 20 * (t + 1) → pSumR M1 7 nr = nI ob1 → ob1 ≤ t + 1 → I0 ≤ pSumS M1 6 ns → CW D cy ad ns nt nr M1 V1 H1 → va_S A0 s.heap H1 locs1 → ∀ ls1 : Array Slot, lv_has ls1 20 [(10, .int I0), (6, .int (nI t)), (5, .int (nI ob1)), (4, .int (nI nr)), (3, .int (nI nt)), (2, .int (nI ns)), (1, .ref (ad 0)), (0, .ref b)] → W p l e room_1 s m args below meth c H1 locs1 (c0 + 60) (s0 + 360) Q (F0 m 1291 ls1 [])) :
    W p l e room_1 s m args below meth c H locs cells slots Q (F0 m 792 ls []) := by
  obtain ⟨⟨hx, hb, hown⟩, ⟨hG, hX, hGx⟩, ⟨hL, hA, hA0⟩, hlf⟩ := id hK
  have hml : c.maxLocals = ls.size := hml9.trans hl.1.symm
  have h1 := hL.1
  have h2 := hL.2.1
  have h3 := hL.2.2
  have rO : 7 ≤ room_1.frames ∧ 160 ≤ room_1.locals := ⟨Nat.le_of_ble_eq_true rfl, Nat.le_of_ble_eq_true rfl⟩
  have hM0 := hW.2.1
  have hR := (hW.2.2.2.2 i hi).1
  refine lv_aload_n hx hb dL_law_792 rfl (lv_at hl 10 rfl) ?_
  refine lv_iload hx hb dL_law_793 (lv_at hl 2 rfl) ?_
  refine lv_iload hx hb dL_law_795 (lv_at hl 4 rfl) ?_
  refine lv_bipush (v := 6) hx hb dL_law_797 (by decide) ?_
  refine lv_ishr hx hb dL_law_799 ?_
  refine lv_bipush (v := 61) hx hb dL_law_800 (by decide) ?_
  refine r_belowN (n := 61) hx hb hml hown hG (by decide) (by decide) (by omega) wM_L_18 ⟨rO, show cells ≤ 600086 by omega, show slots ≤ 7301442 by omega⟩ (Nat.le_of_ble_eq_true rfl) dL_law_802 (fun q802 hq802 => ?_)
  refine lv_bipush (v := 30) hx hb dL_law_805 (by decide) ?_
  refine lv_isub hx hb dL_law_807 ?_
  refine q_spoof (v9 := M (30 + i) 11) hK hml hw hS hi (((IR.of_nI (k := q802) (a := 0) (b := 60) (by omega) (by omega) (by omega)).sub (show IR 30 30 30 from IR.lit (by decide)) (by decide) (by decide) (a' := -30) (b' := 30) (by decide) (by decide)).out (by decide) (by decide)) rfl wM_L_75 ⟨rO, show cells + 1 ≤ 600086 by omega, show slots + 6 ≤ 7301442 by omega⟩ (Nat.le_of_ble_eq_true rfl) dL_law_808 (fun H locs hw z1 hS => ?_)
  refine k_mabs hx hb hml hown hG wM_L_78 (Nat.le_of_ble_eq_true rfl) (Nat.le_of_ble_eq_true rfl) (show (cells + 1) ≤ 600086 by omega) (show (slots + 6) ≤ 7301442 by omega) dL_law_811 ?_
  refine lv_bipush (v := 30) hx hb dL_law_814 (by decide) ?_
  refine lv_icmp_le (tgt := 1291) hx hb dL_law_816 (by decide) (fun _ => ?_) (fun q9 => absurd ((pAbs_IR hR.2.2.2.2.2.2.2.2 (by decide)).le (by decide)) q9)
  refine W.widen (k := c0 + 60) (n := s0 + 360) (by omega) (by omega) ?_
  exact kk _ _ ep ob _ _ (hW.rc1 (Nat.le_succ t) (by omega) hi (JR.spoof (w := ((nI q802) - 30)) hR (((IR.of_nI (k := q802) (a := 0) (b := 60) (by omega) (by omega) (by omega)).sub (show IR 30 30 30 from IR.lit (by decide)) (by decide) (by decide) (a' := -30) (b' := 30) (by decide) (by decide)).bd (by decide) (by decide)))) (by omega) ((obs_of (M := M) nr (fun q hq => by rw [mset_n (by omega)])).trans hob) (by omega) (le_eq hI0 (sum_of (M := M) ns (fun q hq => by rw [mset_n (by omega)]))) hw hS ls (lv_sub hl [1, 5, 6, 7, 8, 9, 10, 11] rfl)
set_option maxHeartbeats 4000000 in
set_option maxRecDepth 100000 in
theorem lc_refer {p : Program} {l : Launch} {e : Env} {s : State} {m : MethodId} {args : Array Value} {below : List Frame} {meth : Method} {c : Code} {H : Heap} {locs : List Loc} {cells slots c0 s0 : Nat} {Q : State → Prop} {ls : Array Slot} {D : va_G} {cy : Nat → ClassId} {A0 : Nat → Prop} {ad : Nat → Nat} {ns nt nr b : Nat} {M : Nat → Nat → Int32} {V : SX} {I0 : Int32} (hK : QX D cy p l s m c cL_law A0 ad ns nt nr) (hml9 : c.maxLocals = 20) {t ep ob : Nat} (ht : t < 60) (hW : JW ep t ns nt nr M) (hep : ep ≤ 20 * t) (hob : pSumR M 7 nr = nI ob) (hobt : ob ≤ t) (hw : CW D cy ad ns nt nr M V H) (hS : va_S A0 s.heap H locs) (hc0 : cells ≤ c0 + 0) (hs0 : slots ≤ s0 + 0) (hc : c0 + 60 ≤ 600086) (hs : s0 + 360 ≤ 7301442) {x : Int32} {j i : Nat} (hj : j < ns) (hi : i < nr) (hnt : 0 < nt) (hI0 : I0 = pSumS M 6 ns) (hl : lv_has ls 20 [(11, .int (M 0 0)), (10, .int I0), (9, .int (nI i)), (8, .int (nI j)), (7, .int x), (6, .int (nI t)), (5, .int (nI ob)), (4, .int (nI nr)), (3, .int (nI nt)), (2, .int (nI ns)), (1, .ref (ad 0)), (0, .ref b)])
    (kk : ∀ (M1 : Nat → Nat → Int32) (V1 : SX) (e1 ob1 : Nat) (H1 : Heap) (locs1 : List Loc), JW e1 (t + 1) ns nt nr M1 → e1 ≤ 20 * (t + 1) → pSumR M1 7 nr = nI ob1 → ob1 ≤ t + 1 → I0 ≤ pSumS M1 6 ns → CW D cy ad ns nt nr M1 V1 H1 → va_S A0 s.heap H1 locs1 → ∀ ls1 : Array Slot, lv_has ls1 20 [(10, .int I0), (6, .int (nI t)), (5, .int (nI ob1)), (4, .int (nI nr)), (3, .int (nI nt)), (2, .int (nI ns)), (1, .ref (ad 0)), (0, .ref b)] → W p l e room_1 s m args below meth c H1 locs1 (c0 + 60) (s0 + 360) Q (F0 m 1291 ls1 [])) :
    W p l e room_1 s m args below meth c H locs cells slots Q (F0 m 821 ls []) := by
  obtain ⟨⟨hx, hb, hown⟩, ⟨hG, hX, hGx⟩, ⟨hL, hA, hA0⟩, hlf⟩ := id hK
  have hml : c.maxLocals = ls.size := hml9.trans hl.1.symm
  have h1 := hL.1
  have h2 := hL.2.1
  have h3 := hL.2.2
  have rO : 7 ≤ room_1.frames ∧ 160 ≤ room_1.locals := ⟨Nat.le_of_ble_eq_true rfl, Nat.le_of_ble_eq_true rfl⟩
  have hM0 := hW.2.1
  have hR := (hW.2.2.2.2 i hi).1
  refine lv_iload hx hb dL_law_821 (lv_at hl 4 rfl) ?_
  refine lv_bipush (v := 6) hx hb dL_law_823 (by decide) ?_
  refine lv_ishr hx hb dL_law_825 ?_
  refine lv_iload hx hb dL_law_826 (lv_at hl 7 rfl) ?_
  refine lv_iconst (v := 1) hx hb dL_law_828 (by decide) ?_
  refine lv_iadd hx hb dL_law_829 ?_
  refine r_belowN (n := nr + 1) hx hb hml hown hG (nI_1 nr) (by omega) (by omega) wM_L_18 ⟨rO, show cells ≤ 600086 by omega, show slots ≤ 7301442 by omega⟩ (Nat.le_of_ble_eq_true rfl) dL_law_830 (fun q830 hq830 => ?_)
  refine lv_iconst (v := 1) hx hb dL_law_833 (by decide) ?_
  refine lv_isub hx hb dL_law_834 ?_
  refine lv_istore (lv' := [(12, .int ((nI q830) - 1)), (11, .int (M 0 0)), (10, .int I0), (9, .int (nI i)), (8, .int (nI j)), (7, .int x), (6, .int (nI t)), (5, .int (nI ob)), (4, .int (nI nr)), (3, .int (nI nt)), (2, .int (nI ns)), (1, .ref (ad 0)), (0, .ref b)]) hx hb dL_law_835 hl (by decide) rfl (fun ls hl => ?_)
  have hml : c.maxLocals = ls.size := hml9.trans hl.1.symm
  refine lv_iload hx hb dL_law_837 (lv_at hl 0 rfl) ?_
  refine lv_iload hx hb dL_law_839 (lv_at hl 3 rfl) ?_
  refine lv_icmp_eq (tgt := 1291) hx hb dL_law_841 (by decide) (fun c_841 => ?_) (fun c_841 => ?_)
  · refine W.widen (k := c0 + 60) (n := s0 + 360) (by omega) (by omega) ?_
    exact kk _ _ ep ob _ _ (hW.next (Nat.le_succ t) (by omega)) (by omega) hob (by omega) (le_eq hI0 rfl) hw hS ls (lv_sub hl [2, 6, 7, 8, 9, 10, 11, 12] rfl)
  · refine lv_aload_n hx hb dL_law_844 rfl (lv_at hl 11 rfl) ?_
    refine lv_iload hx hb dL_law_845 (lv_at hl 3 rfl) ?_
    refine lv_iload hx hb dL_law_847 (lv_at hl 0 rfl) ?_
    refine q_refer (v9 := M (30 + i) 12) hK hml hw hS hi (f_ref hq830) c_841 rfl wM_L_83 ⟨rO, show cells + 1 ≤ 600086 by omega, show slots + 6 ≤ 7301442 by omega⟩ (Nat.le_of_ble_eq_true rfl) dL_law_849 (fun H locs hw z1 hS => ?_)
    refine lv_iload hx hb dL_law_852 (lv_at hl 8 rfl) ?_
    refine lv_icmp_lt (tgt := 1291) hx hb dL_law_854 (by decide) (fun _ => ?_) (fun q9 => absurd (f_refv h3 hR) q9)
    refine W.widen (k := c0 + 60) (n := s0 + 360) (by omega) (by omega) ?_
    exact kk _ _ ep ob _ _ (hW.rc1 (Nat.le_succ t) (by omega) hi (JR.refer (w := ((nI q830) - 1)) hR (f_ref hq830) c_841)) (by omega) ((obs_of (M := M) nr (fun q hq => by rw [mset_n (by omega)])).trans hob) (by omega) (le_eq hI0 (sum_of (M := M) ns (fun q hq => by rw [mset_n (by omega)]))) hw hS ls (lv_sub hl [2, 6, 7, 8, 9, 10, 11, 12] rfl)
set_option maxHeartbeats 4000000 in
set_option maxRecDepth 100000 in
theorem lc_pass {p : Program} {l : Launch} {e : Env} {s : State} {m : MethodId} {args : Array Value} {below : List Frame} {meth : Method} {c : Code} {H : Heap} {locs : List Loc} {cells slots c0 s0 : Nat} {Q : State → Prop} {ls : Array Slot} {D : va_G} {cy : Nat → ClassId} {A0 : Nat → Prop} {ad : Nat → Nat} {ns nt nr b : Nat} {M : Nat → Nat → Int32} {V : SX} {I0 : Int32} (hK : QX D cy p l s m c cL_law A0 ad ns nt nr) (hml9 : c.maxLocals = 20) {t ep ob : Nat} (ht : t < 60) (hW : JW ep t ns nt nr M) (hep : ep ≤ 20 * t) (hob : pSumR M 7 nr = nI ob) (hobt : ob ≤ t) (hw : CW D cy ad ns nt nr M V H) (hS : va_S A0 s.heap H locs) (hc0 : cells ≤ c0 + 0) (hs0 : slots ≤ s0 + 0) (hc : c0 + 60 ≤ 600086) (hs : s0 + 360 ≤ 7301442) {x : Int32} {j i : Nat} (hj : j < ns) (hi : i < nr) (hnt : 0 < nt) (hI0 : I0 = pSumS M 6 ns) (hl : lv_has ls 20 [(11, .int (M 0 0)), (10, .int I0), (9, .int (nI i)), (8, .int (nI j)), (7, .int x), (6, .int (nI t)), (5, .int (nI ob)), (4, .int (nI nr)), (3, .int (nI nt)), (2, .int (nI ns)), (1, .ref (ad 0)), (0, .ref b)])
    (kk : ∀ (M1 : Nat → Nat → Int32) (V1 : SX) (e1 ob1 : Nat) (H1 : Heap) (locs1 : List Loc), JW e1 (t + 1) ns nt nr M1 → e1 ≤ 20 * (t + 1) → pSumR M1 7 nr = nI ob1 → ob1 ≤ t + 1 → I0 ≤ pSumS M1 6 ns → CW D cy ad ns nt nr M1 V1 H1 → va_S A0 s.heap H1 locs1 → ∀ ls1 : Array Slot, lv_has ls1 20 [(10, .int I0), (6, .int (nI t)), (5, .int (nI ob1)), (4, .int (nI nr)), (3, .int (nI nt)), (2, .int (nI ns)), (1, .ref (ad 0)), (0, .ref b)] → W p l e room_1 s m args below meth c H1 locs1 (c0 + 60) (s0 + 360) Q (F0 m 1291 ls1 [])) :
    W p l e room_1 s m args below meth c H locs cells slots Q (F0 m 859 ls []) := by
  obtain ⟨⟨hx, hb, hown⟩, ⟨hG, hX, hGx⟩, ⟨hL, hA, hA0⟩, hlf⟩ := id hK
  have hml : c.maxLocals = ls.size := hml9.trans hl.1.symm
  have h1 := hL.1
  have h2 := hL.2.1
  have h3 := hL.2.2
  have rO : 7 ≤ room_1.frames ∧ 160 ≤ room_1.locals := ⟨Nat.le_of_ble_eq_true rfl, Nat.le_of_ble_eq_true rfl⟩
  have hM0 := hW.2.1
  refine lv_aload_n hx hb dL_law_859 rfl (lv_at hl 10 rfl) ?_
  refine lv_iload hx hb dL_law_860 (lv_at hl 4 rfl) ?_
  refine lv_bipush (v := 6) hx hb dL_law_862 (by decide) ?_
  refine lv_ishr hx hb dL_law_864 ?_
  refine lv_iconst (v := 4) hx hb dL_law_865 (by decide) ?_
  refine r_belowN (n := 4) hx hb hml hown hG (by decide) (by decide) (by omega) wM_L_18 ⟨rO, show cells ≤ 600086 by omega, show slots ≤ 7301442 by omega⟩ (Nat.le_of_ble_eq_true rfl) dL_law_866 (fun q866 hq866 => ?_)
  refine lv_if_ne (tgt := 886) hx hb dL_law_869 (by decide) (fun c_869 => ?_) (fun c_869 => ?_)
  · refine lv_iconst (v := 1) hx hb dL_law_886 (by decide) ?_
    refine q_pass (v9 := nI (ep + 1)) (k := 1) hK hml hw hS (show (1 : Int32) = nI 1 from rfl) (by omega) (by omega) ((hW.pass 1 (by omega)).2.1) wM_L_86 ⟨rO, show cells + 1 ≤ 600086 by omega, show slots + 6 ≤ 7301442 by omega⟩ (Nat.le_of_ble_eq_true rfl) dL_law_887 (fun H locs hw z1 hS => ?_)
    refine lv_iload hx hb dL_law_890 (lv_at hl 0 rfl) ?_
    refine lv_icmp_gt (tgt := 1291) hx hb dL_law_892 (by decide) (fun _ => ?_) (fun q9 => absurd (by rw [hM0]; exact nI_lt (by omega) (by omega)) q9)
    refine W.widen (k := c0 + 60) (n := s0 + 360) (by omega) (by omega) ?_
    exact kk _ _ (ep + 1) ob _ _ ((hW.pass 1 (by omega)).next (Nat.le_succ t) (by omega)) (by omega) ((obs_of (M := M) nr (fun q hq => by rw [pPN_k (by omega) (by omega)])).trans hob) (by omega) (le_eq hI0 (sum_of (M := M) ns (fun q hq => pPN_6 hq _))) hw hS ls (lv_sub hl [1, 5, 6, 7, 8, 9, 10, 11] rfl)
  · refine lv_iconst (v := 1) hx hb dL_law_872 (by decide) ?_
    refine lv_iload hx hb dL_law_873 (lv_at hl 4 rfl) ?_
    refine lv_iconst (v := 4) hx hb dL_law_875 (by decide) ?_
    refine lv_ishr hx hb dL_law_876 ?_
    refine lv_bipush (v := 20) hx hb dL_law_877 (by decide) ?_
    refine r_belowN (n := 20) hx hb hml hown hG (by decide) (by decide) (by omega) wM_L_18 ⟨rO, show cells ≤ 600086 by omega, show slots ≤ 7301442 by omega⟩ (Nat.le_of_ble_eq_true rfl) dL_law_879 (fun q879 hq879 => ?_)
    refine lv_iadd hx hb dL_law_882 ?_
    refine lv_goto (tgt := 887) hx hb dL_law_883 (by decide) ?_
    refine q_pass (v9 := nI (ep + (1 + q879))) (k := (1 + q879)) hK hml hw hS (show (1 + (nI q879)) = nI (1 + q879) from nI_add 1 _) (by omega) (by omega) ((hW.pass (1 + q879) (by omega)).2.1) wM_L_86 ⟨rO, show cells + 1 ≤ 600086 by omega, show slots + 6 ≤ 7301442 by omega⟩ (Nat.le_of_ble_eq_true rfl) dL_law_887 (fun H locs hw z1 hS => ?_)
    refine lv_iload hx hb dL_law_890 (lv_at hl 0 rfl) ?_
    refine lv_icmp_gt (tgt := 1291) hx hb dL_law_892 (by decide) (fun _ => ?_) (fun q9 => absurd (by rw [hM0]; exact nI_lt (by omega) (by omega)) q9)
    refine W.widen (k := c0 + 60) (n := s0 + 360) (by omega) (by omega) ?_
    exact kk _ _ (ep + (1 + q879)) ob _ _ ((hW.pass (1 + q879) (by omega)).next (Nat.le_succ t) (by omega)) (by omega) ((obs_of (M := M) nr (fun q hq => by rw [pPN_k (by omega) (by omega)])).trans hob) (by omega) (le_eq hI0 (sum_of (M := M) ns (fun q hq => pPN_6 hq _))) hw hS ls (lv_sub hl [1, 5, 6, 7, 8, 9, 10, 11] rfl)
set_option maxHeartbeats 4000000 in
set_option maxRecDepth 100000 in
theorem lc_listen {p : Program} {l : Launch} {e : Env} {s : State} {m : MethodId} {args : Array Value} {below : List Frame} {meth : Method} {c : Code} {H : Heap} {locs : List Loc} {cells slots c0 s0 : Nat} {Q : State → Prop} {ls : Array Slot} {D : va_G} {cy : Nat → ClassId} {A0 : Nat → Prop} {ad : Nat → Nat} {ns nt nr b : Nat} {M : Nat → Nat → Int32} {V : SX} {I0 : Int32} (hK : QX D cy p l s m c cL_law A0 ad ns nt nr) (hml9 : c.maxLocals = 20) {t ep ob : Nat} (ht : t < 60) (hW : JW ep t ns nt nr M) (hep : ep ≤ 20 * t) (hob : pSumR M 7 nr = nI ob) (hobt : ob ≤ t) (hw : CW D cy ad ns nt nr M V H) (hS : va_S A0 s.heap H locs) (hc0 : cells ≤ c0 + 0) (hs0 : slots ≤ s0 + 0) (hc : c0 + 60 ≤ 600086) (hs : s0 + 360 ≤ 7301442) {x : Int32} {j i : Nat} (hj : j < ns) (hi : i < nr) (hnt : 0 < nt) (hI0 : I0 = pSumS M 6 ns) (hl : lv_has ls 20 [(11, .int (M 0 0)), (10, .int I0), (9, .int (nI i)), (8, .int (nI j)), (7, .int x), (6, .int (nI t)), (5, .int (nI ob)), (4, .int (nI nr)), (3, .int (nI nt)), (2, .int (nI ns)), (1, .ref (ad 0)), (0, .ref b)])
    (kk : ∀ (M1 : Nat → Nat → Int32) (V1 : SX) (e1 ob1 : Nat) (H1 : Heap) (locs1 : List Loc), JW e1 (t + 1) ns nt nr M1 → e1 ≤ 20 * (t + 1) → pSumR M1 7 nr = nI ob1 → ob1 ≤ t + 1 → I0 ≤ pSumS M1 6 ns → CW D cy ad ns nt nr M1 V1 H1 → va_S A0 s.heap H1 locs1 → ∀ ls1 : Array Slot, lv_has ls1 20 [(10, .int I0), (6, .int (nI t)), (5, .int (nI ob1)), (4, .int (nI nr)), (3, .int (nI nt)), (2, .int (nI ns)), (1, .ref (ad 0)), (0, .ref b)] → W p l e room_1 s m args below meth c H1 locs1 (c0 + 60) (s0 + 360) Q (F0 m 1291 ls1 [])) :
    W p l e room_1 s m args below meth c H locs cells slots Q (F0 m 428 ls []) := by
  obtain ⟨⟨hx, hb, hown⟩, ⟨hG, hX, hGx⟩, ⟨hL, hA, hA0⟩, hlf⟩ := id hK
  have hml : c.maxLocals = ls.size := hml9.trans hl.1.symm
  have h1 := hL.1
  have h2 := hL.2.1
  have h3 := hL.2.2
  have rO : 7 ≤ room_1.frames ∧ 160 ≤ room_1.locals := ⟨Nat.le_of_ble_eq_true rfl, Nat.le_of_ble_eq_true rfl⟩
  have hM0 := hW.2.1
  refine lv_iload hx hb dL_law_428 (lv_at hl 4 rfl) ?_
  refine lv_bipush (v := 6) hx hb dL_law_430 (by decide) ?_
  refine lv_ishr hx hb dL_law_432 ?_
  refine lv_iload_n hx hb dL_law_433 rfl (lv_at hl 8 rfl) ?_
  refine r_belowN (n := nt) hx hb hml hown hG rfl hnt (by omega) wM_L_18 ⟨rO, show cells ≤ 600086 by omega, show slots ≤ 7301442 by omega⟩ (Nat.le_of_ble_eq_true rfl) dL_law_434 (fun q434 hq434 => ?_)
  refine lv_istore (lv' := [(12, .int (nI q434)), (11, .int (M 0 0)), (10, .int I0), (9, .int (nI i)), (8, .int (nI j)), (7, .int x), (6, .int (nI t)), (5, .int (nI ob)), (4, .int (nI nr)), (3, .int (nI nt)), (2, .int (nI ns)), (1, .ref (ad 0)), (0, .ref b)]) hx hb dL_law_437 hl (by decide) rfl (fun ls hl => ?_)
  have hml : c.maxLocals = ls.size := hml9.trans hl.1.symm
  refine lv_aload_n hx hb dL_law_439 rfl (lv_at hl 11 rfl) ?_
  refine lv_iload hx hb dL_law_440 (lv_at hl 4 rfl) ?_
  refine lv_iload hx hb dL_law_442 (lv_at hl 0 rfl) ?_
  refine q_heardIn (v := pFs (M (20 + q434)) (M (10 + j)) 49 0) hK hml hw hS hj hq434 rfl wM_L_37 ⟨rO, show cells + 1 ≤ 600086 by omega, show slots + 6 ≤ 7301442 by omega⟩ (Nat.le_of_ble_eq_true rfl) dL_law_444 (fun H locs hw z1 hS => ?_)
  refine lv_if_ne (tgt := 454) hx hb dL_law_447 (by decide) (fun c_447 => ?_) (fun c_447 => ?_)
  · refine lv_iconst (v := 0) hx hb dL_law_454 (by decide) ?_
    refine lv_istore (lv' := [(13, .int 0), (12, .int (nI q434)), (11, .int (M 0 0)), (10, .int I0), (9, .int (nI i)), (8, .int (nI j)), (7, .int x), (6, .int (nI t)), (5, .int (nI ob)), (4, .int (nI nr)), (3, .int (nI nt)), (2, .int (nI ns)), (1, .ref (ad 0)), (0, .ref b)]) hx hb dL_law_455 hl (by decide) rfl (fun ls hl => ?_)
    have hml : c.maxLocals = ls.size := hml9.trans hl.1.symm
    refine lv_aload_n hx hb dL_law_457 rfl (lv_at hl 12 rfl) ?_
    refine lv_iload hx hb dL_law_458 (lv_at hl 5 rfl) ?_
    refine lv_iconst (v := 0) hx hb dL_law_460 (by decide) ?_
    refine q_message (v := M (10 + j) 6) hK hml hw hS hj (by decide) rfl wM_L_40 ⟨rO, show (cells + 1) + 1 ≤ 600086 by omega, show (slots + 6) + 6 ≤ 7301442 by omega⟩ (Nat.le_of_ble_eq_true rfl) dL_law_461 (fun H locs hw z1 hS => ?_)
    refine lv_istore (lv' := [(14, .int (M (10 + j) 6)), (13, .int 0), (12, .int (nI q434)), (11, .int (M 0 0)), (10, .int I0), (9, .int (nI i)), (8, .int (nI j)), (7, .int x), (6, .int (nI t)), (5, .int (nI ob)), (4, .int (nI nr)), (3, .int (nI nt)), (2, .int (nI ns)), (1, .ref (ad 0)), (0, .ref b)]) hx hb dL_law_464 hl (by decide) rfl (fun ls hl => ?_)
    have hml : c.maxLocals = ls.size := hml9.trans hl.1.symm
    refine lv_iload hx hb dL_law_466 (lv_at hl 1 rfl) ?_
    refine lv_if_eq (tgt := 1291) hx hb dL_law_468 (by decide) (fun _ => ?_) (fun q9 => absurd rfl q9)
    refine W.widen (k := c0 + 60) (n := s0 + 360) (by omega) (by omega) ?_
    exact kk _ _ ep ob _ _ (hW.next (Nat.le_succ t) (by omega)) (by omega) hob (by omega) (le_eq hI0 rfl) hw hS ls (lv_sub hl [4, 8, 9, 10, 11, 12, 13, 14] rfl)
  · refine lv_iconst (v := 1) hx hb dL_law_450 (by decide) ?_
    refine lv_goto (tgt := 455) hx hb dL_law_451 (by decide) ?_
    refine lv_istore (lv' := [(13, .int 1), (12, .int (nI q434)), (11, .int (M 0 0)), (10, .int I0), (9, .int (nI i)), (8, .int (nI j)), (7, .int x), (6, .int (nI t)), (5, .int (nI ob)), (4, .int (nI nr)), (3, .int (nI nt)), (2, .int (nI ns)), (1, .ref (ad 0)), (0, .ref b)]) hx hb dL_law_455 hl (by decide) rfl (fun ls hl => ?_)
    have hml : c.maxLocals = ls.size := hml9.trans hl.1.symm
    refine lv_aload_n hx hb dL_law_457 rfl (lv_at hl 12 rfl) ?_
    refine lv_iload hx hb dL_law_458 (lv_at hl 5 rfl) ?_
    refine lv_iconst (v := 0) hx hb dL_law_460 (by decide) ?_
    refine q_message (v := M (10 + j) 6) hK hml hw hS hj (by decide) rfl wM_L_40 ⟨rO, show (cells + 1) + 1 ≤ 600086 by omega, show (slots + 6) + 6 ≤ 7301442 by omega⟩ (Nat.le_of_ble_eq_true rfl) dL_law_461 (fun H locs hw z1 hS => ?_)
    refine lv_istore (lv' := [(14, .int (M (10 + j) 6)), (13, .int 1), (12, .int (nI q434)), (11, .int (M 0 0)), (10, .int I0), (9, .int (nI i)), (8, .int (nI j)), (7, .int x), (6, .int (nI t)), (5, .int (nI ob)), (4, .int (nI nr)), (3, .int (nI nt)), (2, .int (nI ns)), (1, .ref (ad 0)), (0, .ref b)]) hx hb dL_law_464 hl (by decide) rfl (fun ls hl => ?_)
    have hml : c.maxLocals = ls.size := hml9.trans hl.1.symm
    refine lv_iload hx hb dL_law_466 (lv_at hl 1 rfl) ?_
    refine lv_if_eq (tgt := 1291) hx hb dL_law_468 (by decide) (fun q9 => absurd q9 (by decide)) (fun _ => ?_)
    refine lv_aload_n hx hb dL_law_471 rfl (lv_at hl 13 rfl) ?_
    refine lv_iload hx hb dL_law_472 (lv_at hl 2 rfl) ?_
    refine lv_iload hx hb dL_law_474 (lv_at hl 6 rfl) ?_
    refine q_listen (v9 := M (10 + j) 6 + 1) hK hml hw hS hq434 hj (f_hear c_447) rfl wM_L_43 ⟨rO, show (cells + 2) + 1 ≤ 600086 by omega, show (slots + 12) + 6 ≤ 7301442 by omega⟩ (Nat.le_of_ble_eq_true rfl) dL_law_476 (fun H locs hw z1 hS => ?_)
    obtain ⟨hJ1, hJ6⟩ := JS.listen (dl := M (20 + q434) 1) (hW.2.2.1 j hj) ht (by omega) (hW.2.2.2.1 q434 hq434)
    rw [← hM0] at hJ1 hJ6
    have hN6 := f_n6 (hW.2.2.1 j hj) (by omega)
    refine lv_iload hx hb dL_law_479 (lv_at hl 0 rfl) ?_
    refine lv_iconst (v := 1) hx hb dL_law_481 (by decide) ?_
    refine lv_iadd hx hb dL_law_482 ?_
    refine lv_icmp_ne (tgt := 535) hx hb dL_law_483 (by decide) (fun q9 => absurd rfl q9) (fun _ => ?_)
    refine lv_aload_n hx hb dL_law_486 rfl (lv_at hl 13 rfl) ?_
    refine lv_bipush (v := 6) hx hb dL_law_487 (by decide) ?_
    refine q_many (v := pSumS M 6 ns + 1) hK hml hw hS  (by decide) (sum_one (by rw [mset_s]; exact hJ6) ns (fun q _ h => by rw [mset_n (by omega)]) hj) wM_L_33 ⟨rO, show (cells + 3) + 1 ≤ 600086 by omega, show (slots + 18) + 6 ≤ 7301442 by omega⟩ (Nat.le_of_ble_eq_true rfl) dL_law_489 (fun H locs hw z1 hS => ?_)
    refine lv_iload hx hb dL_law_492 (lv_at hl 4 rfl) ?_
    refine lv_iconst (v := 1) hx hb dL_law_494 (by decide) ?_
    refine lv_iadd hx hb dL_law_495 ?_
    refine lv_icmp_ne (tgt := 535) hx hb dL_law_496 (by decide) (fun q9 => absurd (by rw [hI0]) q9) (fun _ => ?_)
    refine lv_aload_n hx hb dL_law_499 rfl (lv_at hl 13 rfl) ?_
    refine lv_iload hx hb dL_law_500 (lv_at hl 6 rfl) ?_
    refine lv_iconst (v := 1) hx hb dL_law_502 (by decide) ?_
    refine q_message (v := M 0 0) hK hml hw hS hj (by decide) (by rw [mset_s]; rfl) wM_L_40 ⟨rO, show (cells + 4) + 1 ≤ 600086 by omega, show (slots + 24) + 6 ≤ 7301442 by omega⟩ (Nat.le_of_ble_eq_true rfl) dL_law_503 (fun H locs hw z1 hS => ?_)
    refine lv_iload hx hb dL_law_506 (lv_at hl 3 rfl) ?_
    refine lv_icmp_ne (tgt := 535) hx hb dL_law_508 (by decide) (fun q9 => absurd rfl q9) (fun _ => ?_)
    refine lv_aload_n hx hb dL_law_511 rfl (lv_at hl 13 rfl) ?_
    refine lv_iload hx hb dL_law_512 (lv_at hl 6 rfl) ?_
    refine lv_bipush (v := 7) hx hb dL_law_514 (by decide) ?_
    refine q_message (v := 0) hK hml hw hS hj (by decide) (by rw [mset_s, mset_n (by omega)]; exact f_lis7 hN6) wM_L_40 ⟨rO, show (cells + 5) + 1 ≤ 600086 by omega, show (slots + 30) + 6 ≤ 7301442 by omega⟩ (Nat.le_of_ble_eq_true rfl) dL_law_516 (fun H locs hw z1 hS => ?_)
    refine lv_if_ne (tgt := 535) hx hb dL_law_519 (by decide) (fun q9 => absurd rfl q9) (fun _ => ?_)
    refine lv_aload_n hx hb dL_law_522 rfl (lv_at hl 13 rfl) ?_
    refine lv_iload hx hb dL_law_523 (lv_at hl 6 rfl) ?_
    refine lv_bipush (v := 6) hx hb dL_law_525 (by decide) ?_
    refine q_message (v := pAbs (M (20 + q434) 1)) hK hml hw hS hj (by decide) (by rw [mset_s, mset_n (by omega)]; exact f_lis6 hN6) wM_L_40 ⟨rO, show (cells + 6) + 1 ≤ 600086 by omega, show (slots + 36) + 6 ≤ 7301442 by omega⟩ (Nat.le_of_ble_eq_true rfl) dL_law_527 (fun H locs hw z1 hS => ?_)
    refine lv_bipush (v := 9) hx hb dL_law_530 (by decide) ?_
    refine lv_icmp_le (tgt := 1291) hx hb dL_law_532 (by decide) (fun _ => ?_) (fun q9 => absurd ((pAbs_IR (K := 9) ((hW.2.2.2.1 q434 hq434).bd (by decide) (by decide)) (by decide)).le (by decide)) q9)
    refine W.widen (k := c0 + 60) (n := s0 + 360) (by omega) (by omega) ?_
    exact kk _ _ ep ob _ _ (hW.st1 (Nat.le_succ t) (by omega) hj hJ1) (by omega) ((obs_of (M := M) nr (fun q hq => by rw [mset_n (by omega)])).trans hob) (by omega) (by rw [sum_one (M := M) (j := j) (by rw [mset_s]; exact hJ6) ns (fun q _ h => by rw [mset_n (by omega)]) hj]; exact le_inc hI0 (sum_lt hW ns (Nat.le_refl _)) (by omega)) hw hS ls (lv_sub hl [4, 8, 9, 10, 11, 12, 13, 14] rfl)
