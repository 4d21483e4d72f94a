-- what comes ahead of an observation
set_option maxHeartbeats 4000000 in
set_option maxRecDepth 100000 in
theorem lc_ahead {p : Program} {l : Launch} {e : Env} {s : State} {m : MethodId} {args : Array Value} {below : List Frame} {meth : Method} {c : Code} {H : Heap} {locs : List Loc} {cells slots c0 s0 : Nat} {Q : State → Prop} {ls : Array Slot} {D : va_G} {cy : Nat → ClassId} {A0 : Nat → Prop} {ad : Nat → Nat} {ns nt nr b : Nat} {M : Nat → Nat → Int32} {V : SX} {I0 : Int32} (hK : QX D cy p l s m c cL_law A0 ad ns nt nr) (hml9 : c.maxLocals = 20) {t ep ob : Nat} (ht : t < 60) (hW : JW ep t ns nt nr M) (hep : ep ≤ 20 * t) (hob : pSumR M 7 nr = nI ob) (hobt : ob ≤ t) (hw : CW D cy ad ns nt nr M V H) (hS : va_S A0 s.heap H locs) (hc0 : cells ≤ c0 + 0) (hs0 : slots ≤ s0 + 0) (hc : c0 + 60 ≤ 600086) (hs : s0 + 360 ≤ 7301442) {x : Int32} {j i : Nat} (hj : j < ns) (hi : i < nr) (hnt : 0 < nt) (hI0 : I0 = pSumS M 6 ns) (hl : lv_has ls 20 [(11, .int (M 0 0)), (10, .int I0), (9, .int (nI i)), (8, .int (nI j)), (7, .int x), (6, .int (nI t)), (5, .int (nI ob)), (4, .int (nI nr)), (3, .int (nI nt)), (2, .int (nI ns)), (1, .ref (ad 0)), (0, .ref b)])
    (kk : ∀ (M1 : Nat → Nat → Int32) (V1 : SX) (e1 ob1 : Nat) (H1 : Heap) (locs1 : List Loc), JW e1 (t + 1) ns nt nr M1 → e1 ≤ 20 * (t + 1) → pSumR M1 7 nr = nI ob1 → ob1 ≤ t + 1 → I0 ≤ pSumS M1 6 ns → CW D cy ad ns nt nr M1 V1 H1 → va_S A0 s.heap H1 locs1 → ∀ ls1 : Array Slot, lv_has ls1 20 [(10, .int I0), (6, .int (nI t)), (5, .int (nI ob1)), (4, .int (nI nr)), (3, .int (nI nt)), (2, .int (nI ns)), (1, .ref (ad 0)), (0, .ref b)] → W p l e room_1 s m args below meth c H1 locs1 (c0 + 60) (s0 + 360) Q (F0 m 1291 ls1 [])) :
    W p l e room_1 s m args below meth c H locs cells slots Q (F0 m 897 ls []) := by
  obtain ⟨⟨hx, hb, hown⟩, ⟨hG, hX, hGx⟩, ⟨hL, hA, hA0⟩, hlf⟩ := id hK
  have hml : c.maxLocals = ls.size := hml9.trans hl.1.symm
  have h1 := hL.1
  have h2 := hL.2.1
  have h3 := hL.2.2
  have rO : 7 ≤ room_1.frames ∧ 160 ≤ room_1.locals := ⟨Nat.le_of_ble_eq_true rfl, Nat.le_of_ble_eq_true rfl⟩
  have hM0 := hW.2.1
  refine lv_aload_n hx hb dL_law_897 rfl (lv_at hl 10 rfl) ?_
  refine lv_iload hx hb dL_law_898 (lv_at hl 2 rfl) ?_
  refine lv_iconst (v := 3) hx hb dL_law_900 (by decide) ?_
  refine q_ofReceiver (v := M (50 + i) 1) hK hml hw hS hi (by decide) rfl wM_L_65 ⟨rO, show cells + 1 ≤ 600086 by omega, show slots + 6 ≤ 7301442 by omega⟩ (Nat.le_of_ble_eq_true rfl) dL_law_901 (fun H locs hw z1 hS => ?_)
  refine lv_iload hx hb dL_law_904 (lv_at hl 0 rfl) ?_
  refine lv_icmp_ne (tgt := 923) hx hb dL_law_906 (by decide) (fun c_906 => ?_) (fun c_906 => ?_)
  · exact lc_obs hK hml9 ht hW (by omega) hob hobt hw hS (by omega) (by omega) hc hs hi hI0 (f_no0 c_906) (lv_sub hl [1, 2, 5, 6, 7, 8, 9, 10, 11] rfl) kk
  · refine lv_iload hx hb dL_law_909 (lv_at hl 0 rfl) ?_
    refine lv_sipush (v := 4000) hx hb dL_law_911 (by decide) ?_
    refine lv_icmp_ge (tgt := 923) hx hb dL_law_914 (by decide) (fun q9 => absurd q9 (by rw [hM0]; exact (IR.of_nI (k := ep) (a := 0) (b := 1200) (by omega) (by omega) (by omega)).nge (by decide))) (fun _ => ?_)
    refine lv_aload_n hx hb dL_law_917 rfl (lv_at hl 10 rfl) ?_
    refine lv_iconst (v := 1) hx hb dL_law_918 (by decide) ?_
    refine q_pass (v9 := nI (ep + 1)) (k := 1) hK hml hw hS (show (1 : Int32) = nI 1 from rfl) (by omega) (by omega) ((hW.pass 1 (by omega)).2.1) wM_L_86 ⟨rO, show (cells + 1) + 1 ≤ 600086 by omega, show (slots + 6) + 6 ≤ 7301442 by omega⟩ (Nat.le_of_ble_eq_true rfl) dL_law_919 (fun H locs hw z1 hS => ?_)
    refine lv_pop hx hb dL_law_922 rfl ?_
    exact lc_obs hK hml9 ht (hW.pass 1 (by omega)) (by omega) ((obs_of (M := M) nr (fun q hq => by rw [pPN_k (by omega) (by omega)])).trans hob) hobt hw hS (by omega) (by omega) hc hs hi (hI0.trans (sum_of (M := M) ns (fun q hq => pPN_6 hq _)).symm) (f_no1 hW hi (by omega)) (lv_sub hl [1, 2, 5, 6, 7, 8, 9, 10, 11] rfl) kk
