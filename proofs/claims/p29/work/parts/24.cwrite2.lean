set_option maxHeartbeats 4000000 in
set_option maxRecDepth 100000 in
theorem c_X6_gatherMeasured (l : Launch) (D : va_G) (cy : Nat → ClassId) (ad : Nat → Nat) (ns nt nr : Nat) (hL : LB ns nt nr) (M : Nat → Nat → Int32) (V : SX) (hA : AI ad ns nt nr) (i : Nat) (hi : i < nr) (hne : M (30 + i) 12 ≠ nI i) : Met l yX6_gatherMeasured [.code yX6_gatherMeasured cX6_gatherMeasured 4 none] ({ frames := 3, cells := 0, slots := 0, locals := 68 } : Room) (PC D cy [.ref (ad 0), .ref (ad (30 + i))] (fun H => CW D cy ad ns nt nr M V H)) (UQv (CA ad ns nt nr) (fun H => CW D cy ad ns nt nr (pGM M nr i ns) (upd V.1 5 (nI (pGMl M nr i V.2.2.2 ns).1), V.2.1, V.2.2.1, (pGMl M nr i V.2.2.2 ns).2) H)) 0 0 (CA ad ns nt nr) := by
  refine k_body (by decide +kernel) (Nat.le_of_ble_eq_true rfl) ?_
  intro p e s m below meth c ls hx hb hml hown hr hlk hmn hl hG hI
  have hml9 : c.maxLocals = 4 := hml.trans hl.1
  have hl : lv_has ls 4 [(0, .ref (ad 0)), (1, .ref (ad (30 + i)))] := hl
  have hS : va_S (CA ad ns nt nr) s.heap s.heap [] := va_S.rf
  have hw := hI
  refine lv_aload_n hx hb dX6_gatherMeasured_0 rfl (lv_at hl 0 rfl) ?_
  refine k_get (ci := 6) (C := RX6) (T := TX6) (N := 8) (v := .ref (ad 1)) hx hb hown hG rfl kin_X6 hw.o 3 (by decide) wF_X6_30 rfl dX6_gatherMeasured_1 ?_
  refine kc_uv (kr_VN (As := []) (rest := []) hx hb hml hown hG (c_X2_clear l D cy (ad 1) (fun i => ad (2 + i)) hA.sv V.1 V.2.1 V.2.2.1 V.2.2.2) cf_X2_clear wMN_X6_329 hw.sv.1 rfl hw.sv ⟨rfl, rfl, by decide, by decide⟩ rfl rfl (Nat.le_of_ble_eq_true rfl) ⟨Nat.le_of_ble_eq_true rfl, Nat.le_of_ble_eq_true rfl⟩ dX6_gatherMeasured_4) hS CA.sv (fun H1 locs hp1 z1 oq1 hS => ?_)
  have hw : CW D cy ad ns nt nr M (upd V.1 5 (nI 0), V.2.1, V.2.2.1, V.2.2.2) H1 := hw.setSv (V' := (upd V.1 5 (nI 0), V.2.1, V.2.2.1, V.2.2.2)) hA hp1 oq1
  refine lv_iconst (v := 0) hx hb dX6_gatherMeasured_7 (by decide) ?_
  refine lv_istore_n (lv' := [(2, .int 0), (0, .ref (ad 0)), (1, .ref (ad (30 + i)))]) hx hb dX6_gatherMeasured_8 rfl hl (by decide) rfl (fun ls hl => ?_)
  have hml : c.maxLocals = ls.size := hml9.trans hl.1.symm
  have lp9_1 : ∀ (n9 : Nat) (j : Nat) (H : Heap) (locs : List Loc), ns + 1 - j ≤ n9 → j ≤ ns → CW D cy ad ns nt nr (pSgs M i j (fGM M nr i)) (upd V.1 5 (nI (pGMl M nr i V.2.2.2 j).1), V.2.1, V.2.2.1, (pGMl M nr i V.2.2.2 j).2) H → va_S (CA ad ns nt nr) s.heap H locs →  ∀ ls : Array Slot, lv_has ls 4 [(2, .int (nI j)), (0, .ref (ad 0)), (1, .ref (ad (30 + i)))] → W p l e ({ frames := 3, cells := 0, slots := 0, locals := 68 } : Room) s m ([.ref (ad 0), .ref (ad (30 + i))] : List Value).toArray below meth c H locs 0 0 (MQ below (UQv (CA ad ns nt nr) (fun H => CW D cy ad ns nt nr (pGM M nr i ns) (upd V.1 5 (nI (pGMl M nr i V.2.2.2 ns).1), V.2.1, V.2.2.1, (pGMl M nr i V.2.2.2 ns).2) H)) ([.ref (ad 0), .ref (ad (30 + i))] : List Value).toArray s 0 0 (CA ad ns nt nr)) (F0 m 9 ls []) := by
    intro n9
    induction n9 with
    | zero =>
      intro j H locs h9
      intro hj; exact absurd h9 (by omega)
    | succ n9 ih9 =>
      intro j H locs hn9 hj hw hS ls hl
      have hml : c.maxLocals = ls.size := hml9.trans hl.1.symm
      refine lv_iload_n hx hb dX6_gatherMeasured_9 rfl (lv_at hl 0 rfl) ?_
      refine lv_aload_n hx hb dX6_gatherMeasured_10 rfl (lv_at hl 1 rfl) ?_
      refine k_get (ci := 6) (C := RX6) (T := TX6) (N := 8) (v := .int (nI ns)) hx hb hown hG rfl kin_X6 hw.o 4 (by decide) wF_X6_47 rfl dX6_gatherMeasured_11 ?_
      refine lv_icmp_ge (tgt := 91) hx hb dX6_gatherMeasured_14 (by decide) (fun c_14 => ?_) (fun c_14 => ?_)
      · have enj : j = ns := Nat.le_antisymm hj ((nI_leI (by have := hL.1; have := hL.2.1; have := hL.2.2; omega) (by have := hL.1; have := hL.2.1; have := hL.2.2; omega)).mp c_14)
        exact ke_uv hx hb hr hlk hS dX6_gatherMeasured_91 (by unfold pGM; subst enj; exact hw)
      · have hltj : j < ns := by
          rcases Nat.lt_or_ge j ns with q | q
          · exact q
          · exact absurd (nI_le q (by have := hL.1; have := hL.2.1; have := hL.2.2; omega)) c_14
        have hj8 : j < 8 := Nat.lt_of_lt_of_le hltj hL.1
        have hM60 : ∀ k, k < 60 → (pSgs M i j (fGM M nr i)) k = M k := fun k hk => pSgs_lo M i j (fGM M nr i) hk
        have ho := hw.o
        rw [hM60 0 (by omega)] at ho
        have hst := hw.st hL hltj
        rw [hM60 _ (by have := hL.1; have := hL.2.2; omega)] at hst
        have hrc := hw.rc hL hi
        rw [hM60 _ (by have := hL.1; have := hL.2.2; omega)] at hrc
        have hsg := hw.sg hL hi hj8
        rw [pSgs_at] at hsg
        refine lv_aload_n hx hb dX6_gatherMeasured_17 rfl (lv_at hl 2 rfl) ?_
        refine k_getN (ci := 0) (C := RX0) (T := TX0) (N := 13) (v := .ref (ad (40 + i))) hx hb hown hG rfl kin_X0 hrc 2 (by decide) wFN_X6_247 rfl dX6_gatherMeasured_18 ?_
        refine lv_iload_n hx hb dX6_gatherMeasured_21 rfl (lv_at hl 0 rfl) ?_
        refine k_aldq (v := (ad (60 + 8 * i + j))) hx hb hG 4 rfl (hw.ga hL hi) (by exact vp_in_nI hj8 (by decide)) (by exact aSg (i := i) hj8) dX6_gatherMeasured_22 ?_
        refine lv_astore_n (lv' := [(3, .ref (ad (60 + 8 * i + j))), (2, .int (nI j)), (0, .ref (ad 0)), (1, .ref (ad (30 + i)))]) hx hb dX6_gatherMeasured_23 rfl hl (by decide) rfl (fun ls hl => ?_)
        have hml : c.maxLocals = ls.size := hml9.trans hl.1.symm
        refine lv_aload_n hx hb dX6_gatherMeasured_24 rfl (lv_at hl 0 rfl) ?_
        refine k_getN (ci := 1) (C := RX1) (T := TX1) (N := 11) (v := .int ((M (60 + 8 * i + j)) 0)) hx hb hown hG rfl kin_X1 hsg 0 (by decide) wFN_X6_332 rfl dX6_gatherMeasured_25 ?_
        refine lv_if_eq (tgt := 85) hx hb dX6_gatherMeasured_28 (by decide) (fun c_28 => ?_) (fun c_28 => ?_)
        · refine lv_iinc (v := (nI (j + 1))) (lv' := [(2, .int (nI (j + 1))), (3, .ref (ad (60 + 8 * i + j))), (0, .ref (ad 0)), (1, .ref (ad (30 + i)))]) hx hb dX6_gatherMeasured_85 hl (k := 1) rfl ((nI_succ j).symm) (by decide) rfl (fun ls hl => ?_)
          have hml : c.maxLocals = ls.size := hml9.trans hl.1.symm
          refine lv_goto (tgt := 9) hx hb dX6_gatherMeasured_88 (by decide) ?_
          exact ih9 (j + 1) _ _ (by omega) hltj (by rw [pSgs_k M i j (fGM M nr i) (if_pos (show bI (cGM M i j) = 0 from by unfold cGM; rw [if_pos c_28]; rfl)), pGMl_s, if_pos (show bI (cGM M i j) = 0 from by unfold cGM; rw [if_pos c_28]; rfl)]; exact hw) hS ls (lv_sub hl [0, 2, 3] rfl)
        · refine lv_aload_n hx hb dX6_gatherMeasured_31 rfl (lv_at hl 2 rfl) ?_
          refine k_get (ci := 6) (C := RX6) (T := TX6) (N := 8) (v := .ref (ad 7)) hx hb hown hG rfl kin_X6 ho 0 (by decide) wF_X6_11 rfl dX6_gatherMeasured_32 ?_
          refine lv_iload_n hx hb dX6_gatherMeasured_35 rfl (lv_at hl 1 rfl) ?_
          refine k_aldq (v := (ad (10 + j))) hx hb hG 1 rfl hw.a7 (by exact vp_in_nI (Nat.lt_of_lt_of_le hltj hL.1) (by decide)) (by exact aSt hltj hL) dX6_gatherMeasured_36 ?_
          refine lv_aload_n hx hb dX6_gatherMeasured_37 rfl (lv_at hl 2 rfl) ?_
          refine k_get (ci := 6) (C := RX6) (T := TX6) (N := 8) (v := .int (M 0 0)) hx hb hown hG rfl kin_X6 ho 7 (by decide) wF_X6_114 rfl dX6_gatherMeasured_38 ?_
          refine kc_i (kr_VN (As := [.int (M 0 0)]) (rest := []) hx hb hml hown hG (c_X3_messageHolds l D cy (ad (10 + j)) (M (10 + j)) (M 0 0)) cf_X3_messageHolds wMN_X6_335 hst rfl hst ⟨rfl, rfl, by decide, by decide⟩ rfl rfl (Nat.le_of_ble_eq_true rfl) ⟨Nat.le_of_ble_eq_true rfl, Nat.le_of_ble_eq_true rfl⟩ dX6_gatherMeasured_41) ?_
          refine lv_if_eq (tgt := 85) hx hb dX6_gatherMeasured_44 (by decide) (fun c_44 => ?_) (fun c_44 => ?_)
          · refine lv_iinc (v := (nI (j + 1))) (lv' := [(2, .int (nI (j + 1))), (3, .ref (ad (60 + 8 * i + j))), (0, .ref (ad 0)), (1, .ref (ad (30 + i)))]) hx hb dX6_gatherMeasured_85 hl (k := 1) rfl ((nI_succ j).symm) (by decide) rfl (fun ls hl => ?_)
            have hml : c.maxLocals = ls.size := hml9.trans hl.1.symm
            refine lv_goto (tgt := 9) hx hb dX6_gatherMeasured_88 (by decide) ?_
            exact ih9 (j + 1) _ _ (by omega) hltj (by rw [pSgs_k M i j (fGM M nr i) (if_pos (show bI (cGM M i j) = 0 from by unfold cGM; rw [if_neg c_28, if_pos c_44]; rfl)), pGMl_s, if_pos (show bI (cGM M i j) = 0 from by unfold cGM; rw [if_neg c_28, if_pos c_44]; rfl)]; exact hw) hS ls (lv_sub hl [0, 2, 3] rfl)
          · refine lv_aload_n hx hb dX6_gatherMeasured_47 rfl (lv_at hl 0 rfl) ?_
            refine lv_iconst (v := 1) hx hb dX6_gatherMeasured_48 (by decide) ?_
            refine k_putN (ci := 1) (C := RX1) (T := TX1) (N := 11) (v := .int 1) hx hb hown hG rfl kin_X1 tyX1 tyX1_ok nmX1 hsg hS (CA.of (LV.sg hi (Nat.lt_of_lt_of_le hltj hL.1))) 2 (by decide) wFN_X6_338 rfl (by first | exact bI_nar _ | decide) (by first | exact bI_fit _ | decide) (Nat.le_of_ble_eq_true rfl) dX6_gatherMeasured_49 (fun H1 locs hP1 z1 oq1 hS => ?_)
            have hsg : va_P D vwCl [((ad (60 + 8 * i + j)), .inr (1, stF (upd (M (60 + 8 * i + j)) 2 1)))] H1 := hP1
            have hw : CW D cy ad ns nt nr (mset (pSgs M i j (fGM M nr i)) (60 + 8 * i + j) (upd (M (60 + 8 * i + j)) 2 1)) (upd V.1 5 (nI (pGMl M nr i V.2.2.2 j).1), V.2.1, V.2.2.1, (pGMl M nr i V.2.2.2 j).2) H1 := hw.setSg hA hL hi hj8 hsg (fun q _ h => oq1 q h)
            have hM60 : ∀ k, k < 60 → (mset (pSgs M i j (fGM M nr i)) (60 + 8 * i + j) (upd (M (60 + 8 * i + j)) 2 1)) k = M k := fun k hk => (mset_n (by omega)).trans (pSgs_lo M i j (fGM M nr i) hk)
            have ho := hw.o
            rw [hM60 0 (by omega)] at ho
            have hst := hw.st hL hltj
            rw [hM60 _ (by have := hL.1; have := hL.2.2; omega)] at hst
            have hrc := hw.rc hL hi
            rw [hM60 _ (by have := hL.1; have := hL.2.2; omega)] at hrc
            refine lv_aload_n hx hb dX6_gatherMeasured_52 rfl (lv_at hl 0 rfl) ?_
            refine lv_aload_n hx hb dX6_gatherMeasured_53 rfl (lv_at hl 2 rfl) ?_
            refine lv_aload_n hx hb dX6_gatherMeasured_54 rfl (lv_at hl 3 rfl) ?_
            refine lv_iload_n hx hb dX6_gatherMeasured_55 rfl (lv_at hl 1 rfl) ?_
            refine kc_i (kr_V (As := [.ref (ad (30 + i)), .int (nI j)]) (rest := [.ref (ad (60 + 8 * i + j))]) hx hb hml hown hG (c_X6_correctionOf l D cy ad ns nt nr hL (mset (pSgs M i j (fGM M nr i)) (60 + 8 * i + j) (upd (M (60 + 8 * i + j)) 2 1)) (upd V.1 5 (nI (pGMl M nr i V.2.2.2 j).1), V.2.1, V.2.2.1, (pGMl M nr i V.2.2.2 j).2) i j hi hltj) cf_X6_correctionOf wM_X6_341 hw.o rfl hw ⟨rfl, rfl, by decide, by decide⟩ rfl rfl (Nat.le_of_ble_eq_true rfl) ⟨Nat.le_of_ble_eq_true rfl, Nat.le_of_ble_eq_true rfl⟩ dX6_gatherMeasured_56) ?_
            refine lv_topi (fun co eco => ?_)
            rw [pCorr_sgs (M := M) (Nat.le_trans hL.2.2 (by decide)) (Nat.lt_of_lt_of_le hi (Nat.le_trans hL.2.2 (by decide))) hM60 (fun r hr => (mset_n (by omega)).trans (pSgs_ne M i j (fGM M nr i) hr (Nat.le_of_lt hj8) hj8)) hne] at eco
            refine k_putN (ci := 1) (C := RX1) (T := TX1) (N := 11) (v := .int co) hx hb hown hG rfl kin_X1 tyX1 tyX1_ok nmX1 hsg hS (CA.of (LV.sg hi (Nat.lt_of_lt_of_le hltj hL.1))) 9 (by decide) wFN_X6_344 rfl rfl rfl (Nat.le_of_ble_eq_true rfl) dX6_gatherMeasured_59 (fun H1 locs hP1 z1 oq1 hS => ?_)
            have hsg : va_P D vwCl [((ad (60 + 8 * i + j)), .inr (1, stF (upd (upd (M (60 + 8 * i + j)) 2 1) 9 (pCorr M nr i j))))] H1 := by rw [← eco]; exact hP1
            have hc : ¬ bI (cGM M i j) = 0 := by unfold cGM; rw [if_neg c_28, if_neg c_44]; decide
            have hw : CW D cy ad ns nt nr (pSgs M i (j + 1) (fGM M nr i)) (upd V.1 5 (nI (pGMl M nr i V.2.2.2 j).1), V.2.1, V.2.2.1, (pGMl M nr i V.2.2.2 j).2) H1 := by rw [← pSgs_s, ← mset_mset _ _ (upd (M (60 + 8 * i + j)) 2 1), show fGM M nr i j (M (60 + 8 * i + j)) = (upd (upd (M (60 + 8 * i + j)) 2 1) 9 (pCorr M nr i j)) from if_neg hc]; exact hw.setSg hA hL hi hj8 hsg (fun q _ h => oq1 q h)
            have hM60 : ∀ k, k < 60 → (pSgs M i (j + 1) (fGM M nr i)) k = M k := fun k hk => pSgs_lo M i (j + 1) (fGM M nr i) hk
            have ho := hw.o
            rw [hM60 0 (by omega)] at ho
            have hst := hw.st hL hltj
            rw [hM60 _ (by have := hL.1; have := hL.2.2; omega)] at hst
            have hrc := hw.rc hL hi
            rw [hM60 _ (by have := hL.1; have := hL.2.2; omega)] at hrc
            refine lv_aload_n hx hb dX6_gatherMeasured_62 rfl (lv_at hl 2 rfl) ?_
            refine lv_aload_n hx hb dX6_gatherMeasured_63 rfl (lv_at hl 2 rfl) ?_
            refine k_get (ci := 6) (C := RX6) (T := TX6) (N := 8) (v := .ref (ad 7)) hx hb hown hG rfl kin_X6 ho 0 (by decide) wF_X6_11 rfl dX6_gatherMeasured_64 ?_
            refine lv_iload_n hx hb dX6_gatherMeasured_67 rfl (lv_at hl 1 rfl) ?_
            refine k_aldq (v := (ad (10 + j))) hx hb hG 1 rfl hw.a7 (by exact vp_in_nI (Nat.lt_of_lt_of_le hltj hL.1) (by decide)) (by exact aSt hltj hL) dX6_gatherMeasured_68 ?_
            refine lv_aload_n hx hb dX6_gatherMeasured_69 rfl (lv_at hl 0 rfl) ?_
            refine kc_i (kr_VN (As := []) (rest := [.ref (ad (10 + j)), .ref (ad 0)]) hx hb hml hown hG (c_X1_measured l D cy (ad (60 + 8 * i + j)) (upd (upd (M (60 + 8 * i + j)) 2 1) 9 (pCorr M nr i j)) ) cf_X1_measured wMN_X6_347 hsg rfl hsg ⟨rfl, rfl, by decide, by decide⟩ rfl rfl (Nat.le_of_ble_eq_true rfl) ⟨Nat.le_of_ble_eq_true rfl, Nat.le_of_ble_eq_true rfl⟩ dX6_gatherMeasured_70) ?_
            refine lv_topi (fun ms ems => ?_)
            have ems : ms = pMeas (M (60 + 8 * i + j)) := ems
            refine lv_aload_n hx hb dX6_gatherMeasured_73 rfl (lv_at hl 0 rfl) ?_
            refine k_getN (ci := 1) (C := RX1) (T := TX1) (N := 11) (v := .int (pCorr M nr i j)) hx hb hown hG rfl kin_X1 hsg 9 (by decide) wFN_X6_344 rfl dX6_gatherMeasured_74 ?_
            refine lv_isub hx hb dX6_gatherMeasured_77 ?_
            refine lv_aload_n hx hb dX6_gatherMeasured_78 rfl (lv_at hl 0 rfl) ?_
            refine k_getN (ci := 1) (C := RX1) (T := TX1) (N := 11) (v := .int ((M (60 + 8 * i + j)) 1)) hx hb hown hG rfl kin_X1 hsg 1 (by decide) wFN_X6_351 rfl dX6_gatherMeasured_79 ?_
            refine kc_uv (kr_V (As := [.ref (ad (10 + j)), .int (ms - (pCorr M nr i j)), .int ((M (60 + 8 * i + j)) 1)]) (rest := []) hx hb hml hown hG (c_X6_use l D cy ad ns nt nr hL (pSgs M i (j + 1) (fGM M nr i)) V hA V.1 V.2.1 V.2.2.1 (pGMl M nr i V.2.2.2 j).2 (pGMl M nr i V.2.2.2 j).1 (Nat.lt_of_le_of_lt (pGMl_le M nr i V.2.2.2 j) (Nat.lt_of_lt_of_le hltj hL.1)) j hltj (ms - (pCorr M nr i j)) ((M (60 + 8 * i + j)) 1)) cf_X6_use wM_X6_354 hw.o rfl hw ⟨rfl, rfl, by decide, by decide⟩ rfl rfl (Nat.le_of_ble_eq_true rfl) ⟨Nat.le_of_ble_eq_true rfl, Nat.le_of_ble_eq_true rfl⟩ dX6_gatherMeasured_82) hS (fun _ h => h) (fun H1 locs hp1 z1 oq1 hS => ?_)
            have hw : CW D cy ad ns nt nr (pSgs M i (j + 1) (fGM M nr i)) (upd V.1 5 (nI ((pGMl M nr i V.2.2.2 j).1 + 1)), V.2.1, V.2.2.1, (pPutS (pGMl M nr i V.2.2.2 j).2 (pGMl M nr i V.2.2.2 j).1 ((pSgs M i (j + 1) (fGM M nr i)) (10 + j)) ((pSgs M i (j + 1) (fGM M nr i)) 0 0) (ms - (pCorr M nr i j)) ((M (60 + 8 * i + j)) 1))) H1 := hp1
            rw [hM60 (10 + j) (by omega), hM60 0 (by omega), ems] at hw
            refine lv_iinc (v := (nI (j + 1))) (lv' := [(2, .int (nI (j + 1))), (3, .ref (ad (60 + 8 * i + j))), (0, .ref (ad 0)), (1, .ref (ad (30 + i)))]) hx hb dX6_gatherMeasured_85 hl (k := 1) rfl ((nI_succ j).symm) (by decide) rfl (fun ls hl => ?_)
            have hml : c.maxLocals = ls.size := hml9.trans hl.1.symm
            refine lv_goto (tgt := 9) hx hb dX6_gatherMeasured_88 (by decide) ?_
            exact ih9 (j + 1) _ _ (by omega) hltj (by rw [pGMl_s, if_neg hc]; exact hw) hS ls (lv_sub hl [0, 2, 3] rfl)
  exact lp9_1 (ns + 1) 0 _ _ (Nat.le_refl _) (Nat.zero_le _) (by rw [pSgs_0, pGMl_0]; exact hw) hS ls (lv_sub hl [0, 1, 2] rfl)
set_option maxHeartbeats 4000000 in
set_option maxRecDepth 100000 in
theorem c_X6_offerCorrections (l : Launch) (D : va_G) (cy : Nat → ClassId) (ad : Nat → Nat) (ns nt nr : Nat) (hL : LB ns nt nr) (M : Nat → Nat → Int32) (V : SX) (hA : AI ad ns nt nr) (i : Nat) (hi : i < nr) : Met l yX6_offerCorrections [.code yX6_offerCorrections cX6_offerCorrections 6 none] ({ frames := 3, cells := 0, slots := 0, locals := 70 } : Room) (PC D cy [.ref (ad 0), .ref (ad (30 + i))] (fun H => CW D cy ad ns nt nr M V H)) (UQv (CA ad ns nt nr) (fun H => CW D cy ad ns nt nr (pOf M i ns) V H)) 0 0 (CA ad ns nt nr) := by
  refine k_body (by decide +kernel) (Nat.le_of_ble_eq_true rfl) ?_
  intro p e s m below meth c ls hx hb hml hown hr hlk hmn hl hG hI
  have hml9 : c.maxLocals = 6 := hml.trans hl.1
  have hl : lv_has ls 6 [(0, .ref (ad 0)), (1, .ref (ad (30 + i)))] := hl
  have hS : va_S (CA ad ns nt nr) s.heap s.heap [] := va_S.rf
  have hw := hI
  refine lv_iconst (v := 0) hx hb dX6_offerCorrections_0 (by decide) ?_
  refine lv_istore_n (lv' := [(2, .int 0), (0, .ref (ad 0)), (1, .ref (ad (30 + i)))]) hx hb dX6_offerCorrections_1 rfl hl (by decide) rfl (fun ls hl => ?_)
  have hml : c.maxLocals = ls.size := hml9.trans hl.1.symm
  refine lv_iconst (v := 0) hx hb dX6_offerCorrections_2 (by decide) ?_
  refine lv_istore_n (lv' := [(3, .int 0), (2, .int 0), (0, .ref (ad 0)), (1, .ref (ad (30 + i)))]) hx hb dX6_offerCorrections_3 rfl hl (by decide) rfl (fun ls hl => ?_)
  have hml : c.maxLocals = ls.size := hml9.trans hl.1.symm
  refine lv_iconst (v := 0) hx hb dX6_offerCorrections_4 (by decide) ?_
  refine lv_istore (lv' := [(4, .int 0), (3, .int 0), (2, .int 0), (0, .ref (ad 0)), (1, .ref (ad (30 + i)))]) hx hb dX6_offerCorrections_5 hl (by decide) rfl (fun ls hl => ?_)
  have hml : c.maxLocals = ls.size := hml9.trans hl.1.symm
  have lp7_1 : ∀ (n9 : Nat) (j : Nat) (sm : Int32) (u : Nat) (H : Heap) (locs : List Loc), ns + 1 - j ≤ n9 → j ≤ ns → sm = (pOfS M i j).1 → u = (pOfS M i j).2 → CW D cy ad ns nt nr (pSgs M i j (fOf M i)) V H → va_S (CA ad ns nt nr) s.heap H locs →  ∀ ls : Array Slot, lv_has ls 6 [(4, .int (nI j)), (3, .int sm), (2, .int (nI u)), (0, .ref (ad 0)), (1, .ref (ad (30 + i)))] → W p l e ({ frames := 3, cells := 0, slots := 0, locals := 70 } : Room) s m ([.ref (ad 0), .ref (ad (30 + i))] : List Value).toArray below meth c H locs 0 0 (MQ below (UQv (CA ad ns nt nr) (fun H => CW D cy ad ns nt nr (pOf M i ns) V H)) ([.ref (ad 0), .ref (ad (30 + i))] : List Value).toArray s 0 0 (CA ad ns nt nr)) (F0 m 7 ls []) := by
    intro n9
    induction n9 with
    | zero =>
      intro j sm u H locs h9
      intro hj; exact absurd h9 (by omega)
    | succ n9 ih9 =>
      intro j sm u H locs hn9 hj es eu hw hS ls hl
      have hml : c.maxLocals = ls.size := hml9.trans hl.1.symm
      refine lv_iload hx hb dX6_offerCorrections_7 (lv_at hl 0 rfl) ?_
      refine lv_aload_n hx hb dX6_offerCorrections_9 rfl (lv_at hl 3 rfl) ?_
      refine k_get (ci := 6) (C := RX6) (T := TX6) (N := 8) (v := .int (nI ns)) hx hb hown hG rfl kin_X6 hw.o 4 (by decide) wF_X6_47 rfl dX6_offerCorrections_10 ?_
      refine lv_icmp_ge (tgt := 72) hx hb dX6_offerCorrections_13 (by decide) (fun c_13 => ?_) (fun c_13 => ?_)
      · have enj : j = ns := Nat.le_antisymm hj ((nI_leI (by have := hL.1; have := hL.2.1; have := hL.2.2; omega) (by have := hL.1; have := hL.2.1; have := hL.2.2; omega)).mp c_13)
        rw [enj] at es eu hw
        refine lv_iload_n hx hb dX6_offerCorrections_72 rfl (lv_at hl 2 rfl) ?_
        refine lv_if_ne (tgt := 77) hx hb dX6_offerCorrections_73 (by decide) (fun c_73 => ?_) (fun c_73 => ?_)
        · refine lv_iload_n hx hb dX6_offerCorrections_77 rfl (lv_at hl 1 rfl) ?_
          refine lv_iload_n hx hb dX6_offerCorrections_78 rfl (lv_at hl 2 rfl) ?_
          refine kc_i (kr_S (As := [.int sm, .int (nI u)]) (rest := []) hx hb hml hown hG (c_J9_floorDiv_7cf53 l D cy sm (nI u) c_73) cf_J9_floorDiv_7cf53 wM_X6_379 trivial ⟨rfl, rfl, by decide, by decide⟩ rfl rfl (Nat.le_of_ble_eq_true rfl) ⟨Nat.le_of_ble_eq_true rfl, Nat.le_of_ble_eq_true rfl⟩ dX6_offerCorrections_79) ?_
          refine lv_istore (lv' := [(4, .int (pFDiv sm (nI u))), (3, .int sm), (2, .int (nI u)), (0, .ref (ad 0)), (1, .ref (ad (30 + i)))]) hx hb dX6_offerCorrections_82 hl (by decide) rfl (fun ls hl => ?_)
          have hml : c.maxLocals = ls.size := hml9.trans hl.1.symm
          refine lv_iconst (v := 0) hx hb dX6_offerCorrections_84 (by decide) ?_
          refine lv_istore (lv' := [(5, .int 0), (4, .int (pFDiv sm (nI u))), (3, .int sm), (2, .int (nI u)), (0, .ref (ad 0)), (1, .ref (ad (30 + i)))]) hx hb dX6_offerCorrections_85 hl (by decide) rfl (fun ls hl => ?_)
          have hml : c.maxLocals = ls.size := hml9.trans hl.1.symm
          have lp87_2 : ∀ (n9 : Nat) (j : Nat) (H : Heap) (locs : List Loc), ns + 1 - j ≤ n9 → j ≤ ns → CW D cy ad ns nt nr (pSgs (pSgs M i ns (fOf M i)) i j (fOf2 (pFDiv sm (nI u)))) V H → va_S (CA ad ns nt nr) s.heap H locs →  ∀ ls : Array Slot, lv_has ls 6 [(5, .int (nI j)), (4, .int (pFDiv sm (nI u))), (3, .int sm), (2, .int (nI u)), (0, .ref (ad 0)), (1, .ref (ad (30 + i)))] → W p l e ({ frames := 3, cells := 0, slots := 0, locals := 70 } : Room) s m ([.ref (ad 0), .ref (ad (30 + i))] : List Value).toArray below meth c H locs 0 0 (MQ below (UQv (CA ad ns nt nr) (fun H => CW D cy ad ns nt nr (pOf M i ns) V H)) ([.ref (ad 0), .ref (ad (30 + i))] : List Value).toArray s 0 0 (CA ad ns nt nr)) (F0 m 87 ls []) := by
            intro n9
            induction n9 with
            | zero =>
              intro j H locs h9
              intro hj; exact absurd h9 (by omega)
            | succ n9 ih9 =>
              intro j H locs hn9 hj hw hS ls hl
              have hml : c.maxLocals = ls.size := hml9.trans hl.1.symm
              refine lv_iload hx hb dX6_offerCorrections_87 (lv_at hl 0 rfl) ?_
              refine lv_aload_n hx hb dX6_offerCorrections_89 rfl (lv_at hl 4 rfl) ?_
              refine k_get (ci := 6) (C := RX6) (T := TX6) (N := 8) (v := .int (nI ns)) hx hb hown hG rfl kin_X6 hw.o 4 (by decide) wF_X6_47 rfl dX6_offerCorrections_90 ?_
              refine lv_icmp_ge (tgt := 132) hx hb dX6_offerCorrections_93 (by decide) (fun c_93 => ?_) (fun c_93 => ?_)
              · have enj : j = ns := Nat.le_antisymm hj ((nI_leI (by have := hL.1; have := hL.2.1; have := hL.2.2; omega) (by have := hL.1; have := hL.2.1; have := hL.2.2; omega)).mp c_93)
                exact ke_uv hx hb hr hlk hS dX6_offerCorrections_132 (by unfold pOf; rw [← eu, ← es, if_neg c_73]; subst enj; exact hw)
              · have hltj : j < ns := by
                  rcases Nat.lt_or_ge j ns with q | q
                  · exact q
                  · exact absurd (nI_le q (by have := hL.1; have := hL.2.1; have := hL.2.2; omega)) c_93
                have hj8 : j < 8 := Nat.lt_of_lt_of_le hltj hL.1
                have hM60 : ∀ k, k < 60 → (pSgs (pSgs M i ns (fOf M i)) i j (fOf2 (pFDiv sm (nI u)))) k = M k := fun k hk => (pSgs_lo _ i j (fOf2 (pFDiv sm (nI u))) hk).trans (pSgs_lo M i ns (fOf M i) hk)
                have ho := hw.o
                rw [hM60 0 (by omega)] at ho
                have hrc := hw.rc hL hi
                rw [hM60 _ (by have := hL.1; have := hL.2.2; omega)] at hrc
                have hsg := hw.sg hL hi hj8
                rw [pSgs_at] at hsg
                refine lv_aload_n hx hb dX6_offerCorrections_96 rfl (lv_at hl 5 rfl) ?_
                refine k_getN (ci := 0) (C := RX0) (T := TX0) (N := 13) (v := .ref (ad (40 + i))) hx hb hown hG rfl kin_X0 hrc 2 (by decide) wFN_X6_247 rfl dX6_offerCorrections_97 ?_
                refine lv_iload hx hb dX6_offerCorrections_100 (lv_at hl 0 rfl) ?_
                refine k_aldq (v := (ad (60 + 8 * i + j))) hx hb hG 4 rfl (hw.ga hL hi) (by exact vp_in_nI hj8 (by decide)) (by exact aSg (i := i) hj8) dX6_offerCorrections_102 ?_
                refine k_getN (ci := 1) (C := RX1) (T := TX1) (N := 11) (v := .int (((pSgs M i ns (fOf M i)) (60 + 8 * i + j)) 2)) hx hb hown hG rfl kin_X1 hsg 2 (by decide) wFN_X6_338 rfl dX6_offerCorrections_103 ?_
                refine lv_if_eq (tgt := 126) hx hb dX6_offerCorrections_106 (by decide) (fun c_106 => ?_) (fun c_106 => ?_)
                · refine lv_iinc (v := (nI (j + 1))) (lv' := [(5, .int (nI (j + 1))), (4, .int (pFDiv sm (nI u))), (3, .int sm), (2, .int (nI u)), (0, .ref (ad 0)), (1, .ref (ad (30 + i)))]) hx hb dX6_offerCorrections_126 hl (k := 0) rfl ((nI_succ j).symm) (by decide) rfl (fun ls hl => ?_)
                  have hml : c.maxLocals = ls.size := hml9.trans hl.1.symm
                  refine lv_goto (tgt := 87) hx hb dX6_offerCorrections_129 (by decide) ?_
                  exact ih9 (j + 1) _ _ (by omega) hltj (by rw [pSgs_k (pSgs M i ns (fOf M i)) i j (fOf2 (pFDiv sm (nI u))) (if_pos c_106)]; exact hw) hS ls (lv_sub hl [0, 1, 2, 3, 4, 5] rfl)
                · refine lv_aload_n hx hb dX6_offerCorrections_109 rfl (lv_at hl 5 rfl) ?_
                  refine k_getN (ci := 0) (C := RX0) (T := TX0) (N := 13) (v := .ref (ad (40 + i))) hx hb hown hG rfl kin_X0 hrc 2 (by decide) wFN_X6_247 rfl dX6_offerCorrections_110 ?_
                  refine lv_iload hx hb dX6_offerCorrections_113 (lv_at hl 0 rfl) ?_
                  refine k_aldq (v := (ad (60 + 8 * i + j))) hx hb hG 4 rfl (hw.ga hL hi) (by exact vp_in_nI hj8 (by decide)) (by exact aSg (i := i) hj8) dX6_offerCorrections_115 ?_
                  refine lv_dup hx hb dX6_offerCorrections_116 rfl ?_
                  refine k_getN (ci := 1) (C := RX1) (T := TX1) (N := 11) (v := .int (((pSgs M i ns (fOf M i)) (60 + 8 * i + j)) 10)) hx hb hown hG rfl kin_X1 hsg 10 (by decide) wFN_X6_372 rfl dX6_offerCorrections_117 ?_
                  refine lv_iload hx hb dX6_offerCorrections_120 (lv_at hl 1 rfl) ?_
                  refine lv_isub hx hb dX6_offerCorrections_122 ?_
                  refine k_putN (ci := 1) (C := RX1) (T := TX1) (N := 11) (v := .int (((pSgs M i ns (fOf M i)) (60 + 8 * i + j)) 10 - (pFDiv sm (nI u)))) hx hb hown hG rfl kin_X1 tyX1 tyX1_ok nmX1 hsg hS (CA.of (LV.sg hi (Nat.lt_of_lt_of_le hltj hL.1))) 10 (by decide) wFN_X6_372 rfl rfl rfl (Nat.le_of_ble_eq_true rfl) dX6_offerCorrections_123 (fun H1 locs hP1 z1 oq1 hS => ?_)
                  have hw : CW D cy ad ns nt nr (pSgs (pSgs M i ns (fOf M i)) i (j + 1) (fOf2 (pFDiv sm (nI u)))) V H1 := by rw [← pSgs_s, show fOf2 (pFDiv sm (nI u)) j ((pSgs M i ns (fOf M i)) (60 + 8 * i + j)) = upd ((pSgs M i ns (fOf M i)) (60 + 8 * i + j)) 10 ((pSgs M i ns (fOf M i)) (60 + 8 * i + j) 10 - pFDiv sm (nI u)) from if_neg c_106]; exact hw.setSg hA hL hi hj8 hP1 (fun q _ h => oq1 q h)
                  refine lv_iinc (v := (nI (j + 1))) (lv' := [(5, .int (nI (j + 1))), (4, .int (pFDiv sm (nI u))), (3, .int sm), (2, .int (nI u)), (0, .ref (ad 0)), (1, .ref (ad (30 + i)))]) hx hb dX6_offerCorrections_126 hl (k := 0) rfl ((nI_succ j).symm) (by decide) rfl (fun ls hl => ?_)
                  have hml : c.maxLocals = ls.size := hml9.trans hl.1.symm
                  refine lv_goto (tgt := 87) hx hb dX6_offerCorrections_129 (by decide) ?_
                  exact ih9 (j + 1) _ _ (by omega) hltj hw hS ls (lv_sub hl [0, 1, 2, 3, 4, 5] rfl)
          exact lp87_2 (ns + 1) 0 _ _ (Nat.le_refl _) (Nat.zero_le _) (by rw [pSgs_0]; exact hw) hS ls (lv_sub hl [0, 1, 2, 3, 4, 5] rfl)
        · exact ke_uv hx hb hr hlk hS dX6_offerCorrections_76 (by unfold pOf; rw [← eu, if_pos c_73]; exact hw)
      · have hltj : j < ns := by
          rcases Nat.lt_or_ge j ns with q | q
          · exact q
          · exact absurd (nI_le q (by have := hL.1; have := hL.2.1; have := hL.2.2; omega)) c_13
        have hj8 : j < 8 := Nat.lt_of_lt_of_le hltj hL.1
        have hM60 : ∀ k, k < 60 → (pSgs M i j (fOf M i)) k = M k := fun k hk => pSgs_lo M i j (fOf M i) hk
        have ho := hw.o
        rw [hM60 0 (by omega)] at ho
        have hst := hw.st hL hltj
        rw [hM60 _ (by have := hL.1; have := hL.2.2; omega)] at hst
        have hrc := hw.rc hL hi
        rw [hM60 _ (by have := hL.1; have := hL.2.2; omega)] at hrc
        have hsg := hw.sg hL hi hj8
        rw [pSgs_at] at hsg
        refine lv_aload_n hx hb dX6_offerCorrections_16 rfl (lv_at hl 4 rfl) ?_
        refine k_getN (ci := 0) (C := RX0) (T := TX0) (N := 13) (v := .ref (ad (40 + i))) hx hb hown hG rfl kin_X0 hrc 2 (by decide) wFN_X6_247 rfl dX6_offerCorrections_17 ?_
        refine lv_iload hx hb dX6_offerCorrections_20 (lv_at hl 0 rfl) ?_
        refine k_aldq (v := (ad (60 + 8 * i + j))) hx hb hG 4 rfl (hw.ga hL hi) (by exact vp_in_nI hj8 (by decide)) (by exact aSg (i := i) hj8) dX6_offerCorrections_22 ?_
        refine lv_astore (lv' := [(5, .ref (ad (60 + 8 * i + j))), (4, .int (nI j)), (3, .int sm), (2, .int (nI u)), (0, .ref (ad 0)), (1, .ref (ad (30 + i)))]) hx hb dX6_offerCorrections_23 hl (by decide) rfl (fun ls hl => ?_)
        have hml : c.maxLocals = ls.size := hml9.trans hl.1.symm
        refine lv_aload hx hb dX6_offerCorrections_25 (lv_at hl 0 rfl) ?_
        refine k_getN (ci := 1) (C := RX1) (T := TX1) (N := 11) (v := .int ((M (60 + 8 * i + j)) 2)) hx hb hown hG rfl kin_X1 hsg 2 (by decide) wFN_X6_338 rfl dX6_offerCorrections_27 ?_
        refine lv_if_eq (tgt := 66) hx hb dX6_offerCorrections_30 (by decide) (fun c_30 => ?_) (fun c_30 => ?_)
        · refine lv_iinc (v := (nI (j + 1))) (lv' := [(4, .int (nI (j + 1))), (5, .ref (ad (60 + 8 * i + j))), (3, .int sm), (2, .int (nI u)), (0, .ref (ad 0)), (1, .ref (ad (30 + i)))]) hx hb dX6_offerCorrections_66 hl (k := 1) rfl ((nI_succ j).symm) (by decide) rfl (fun ls hl => ?_)
          have hml : c.maxLocals = ls.size := hml9.trans hl.1.symm
          refine lv_goto (tgt := 7) hx hb dX6_offerCorrections_69 (by decide) ?_
          exact ih9 (j + 1) sm u _ _ (by omega) hltj (by rw [pOfS_s, if_pos c_30]; exact es) (by rw [pOfS_s, if_pos c_30]; exact eu) (by rw [pSgs_k M i j (fOf M i) (if_pos c_30)]; exact hw) hS ls (lv_sub hl [0, 2, 3, 4, 5] rfl)
        · refine lv_aload hx hb dX6_offerCorrections_33 (lv_at hl 0 rfl) ?_
          refine lv_aload_n hx hb dX6_offerCorrections_35 rfl (lv_at hl 4 rfl) ?_
          refine lv_aload_n hx hb dX6_offerCorrections_36 rfl (lv_at hl 5 rfl) ?_
          refine lv_aload_n hx hb dX6_offerCorrections_37 rfl (lv_at hl 4 rfl) ?_
          refine k_get (ci := 6) (C := RX6) (T := TX6) (N := 8) (v := .ref (ad 7)) hx hb hown hG rfl kin_X6 ho 0 (by decide) wF_X6_11 rfl dX6_offerCorrections_38 ?_
          refine lv_iload hx hb dX6_offerCorrections_41 (lv_at hl 1 rfl) ?_
          refine k_aldq (v := (ad (10 + j))) hx hb hG 1 rfl hw.a7 (by exact vp_in_nI (Nat.lt_of_lt_of_le hltj hL.1) (by decide)) (by exact aSt hltj hL) dX6_offerCorrections_43 ?_
          refine lv_aload hx hb dX6_offerCorrections_44 (lv_at hl 0 rfl) ?_
          refine kc_i (kr_VN (As := []) (rest := [.ref (ad (10 + j)), .ref (ad (30 + i)), .ref (ad 0), .ref (ad (60 + 8 * i + j))]) hx hb hml hown hG (c_X1_measured l D cy (ad (60 + 8 * i + j)) (M (60 + 8 * i + j)) ) cf_X1_measured wMN_X6_347 hsg rfl hsg ⟨rfl, rfl, by decide, by decide⟩ rfl rfl (Nat.le_of_ble_eq_true rfl) ⟨Nat.le_of_ble_eq_true rfl, Nat.le_of_ble_eq_true rfl⟩ dX6_offerCorrections_46) ?_
          refine kc_i (kr_V (As := [.ref (ad (30 + i)), .ref (ad (10 + j)), .int (pMeas (M (60 + 8 * i + j)))]) (rest := [.ref (ad (60 + 8 * i + j))]) hx hb hml hown hG (c_X6_tooFar l D cy ad ns nt nr hL (pSgs M i j (fOf M i)) V i j hi hltj (pMeas (M (60 + 8 * i + j)))) cf_X6_tooFar wM_X6_375 hw.o rfl hw ⟨rfl, rfl, by decide, by decide⟩ rfl rfl (Nat.le_of_ble_eq_true rfl) ⟨Nat.le_of_ble_eq_true rfl, Nat.le_of_ble_eq_true rfl⟩ dX6_offerCorrections_49) ?_
          refine lv_topi (fun tf etf => ?_)
          rw [hM60 0 (by omega), hM60 (30 + i) (by have := hL.2.2; omega), hM60 (10 + j) (by omega)] at etf
          refine k_putN (ci := 1) (C := RX1) (T := TX1) (N := 11) (v := .int tf) hx hb hown hG rfl kin_X1 tyX1 tyX1_ok nmX1 hsg hS (CA.of (LV.sg hi (Nat.lt_of_lt_of_le hltj hL.1))) 10 (by decide) wFN_X6_372 rfl rfl rfl (Nat.le_of_ble_eq_true rfl) dX6_offerCorrections_52 (fun H1 locs hP1 z1 oq1 hS => ?_)
          have hsg : va_P D vwCl [((ad (60 + 8 * i + j)), .inr (1, stF (upd (M (60 + 8 * i + j)) 10 tf)))] H1 := hP1
          have hw : CW D cy ad ns nt nr (pSgs M i (j + 1) (fOf M i)) V H1 := by rw [← pSgs_s, show fOf M i j (M (60 + 8 * i + j)) = (upd (M (60 + 8 * i + j)) 10 tf) from by unfold fOf; rw [if_neg c_30, etf]]; exact hw.setSg hA hL hi hj8 hsg (fun q _ h => oq1 q h)
          refine lv_iload_n hx hb dX6_offerCorrections_55 rfl (lv_at hl 2 rfl) ?_
          refine lv_aload hx hb dX6_offerCorrections_56 (lv_at hl 0 rfl) ?_
          refine k_getN (ci := 1) (C := RX1) (T := TX1) (N := 11) (v := .int tf) hx hb hown hG rfl kin_X1 hsg 10 (by decide) wFN_X6_372 rfl dX6_offerCorrections_58 ?_
          refine lv_iadd hx hb dX6_offerCorrections_61 ?_
          refine lv_istore_n (lv' := [(3, .int (sm + tf)), (5, .ref (ad (60 + 8 * i + j))), (4, .int (nI j)), (2, .int (nI u)), (0, .ref (ad 0)), (1, .ref (ad (30 + i)))]) hx hb dX6_offerCorrections_62 rfl hl (by decide) rfl (fun ls hl => ?_)
          have hml : c.maxLocals = ls.size := hml9.trans hl.1.symm
          refine lv_iinc (v := (nI (u + 1))) (lv' := [(2, .int (nI (u + 1))), (3, .int (sm + tf)), (5, .ref (ad (60 + 8 * i + j))), (4, .int (nI j)), (0, .ref (ad 0)), (1, .ref (ad (30 + i)))]) hx hb dX6_offerCorrections_63 hl (k := 3) rfl ((nI_succ u).symm) (by decide) rfl (fun ls hl => ?_)
          have hml : c.maxLocals = ls.size := hml9.trans hl.1.symm
          refine lv_iinc (v := (nI (j + 1))) (lv' := [(4, .int (nI (j + 1))), (2, .int (nI (u + 1))), (3, .int (sm + tf)), (5, .ref (ad (60 + 8 * i + j))), (0, .ref (ad 0)), (1, .ref (ad (30 + i)))]) hx hb dX6_offerCorrections_66 hl (k := 3) rfl ((nI_succ j).symm) (by decide) rfl (fun ls hl => ?_)
          have hml : c.maxLocals = ls.size := hml9.trans hl.1.symm
          refine lv_goto (tgt := 7) hx hb dX6_offerCorrections_69 (by decide) ?_
          exact ih9 (j + 1) (sm + tf) (u + 1) _ _ (by omega) hltj (by rw [pOfS_s, if_neg c_30, es, etf]) (by rw [pOfS_s, if_neg c_30, eu]) hw hS ls (lv_sub hl [0, 2, 1, 4, 5] rfl)
  exact lp7_1 (ns + 1) 0 0 0 _ _ (Nat.le_refl _) (Nat.zero_le _) (by rw [pOfS_0]) (by rw [pOfS_0]) (by rw [pSgs_0]; exact hw) hS ls (lv_sub hl [0, 1, 2, 3, 4] rfl)
set_option maxHeartbeats 4000000 in
set_option maxRecDepth 100000 in
theorem c_X6_supposedAlarm (l : Launch) (D : va_G) (cy : Nat → ClassId) (ad : Nat → Nat) (ns nt nr : Nat) (hL : LB ns nt nr) (M : Nat → Nat → Int32) (V : SX) (hA : AI ad ns nt nr) (i : Nat) (hi : i < nr) : Met l yX6_supposedAlarm [.code yX6_supposedAlarm cX6_supposedAlarm 2 (some .int)] ({ frames := 5, cells := 0, slots := 0, locals := 119 } : Room) (PC D cy [.ref (ad 0), .ref (ad (30 + i))] (fun H => CW D cy ad ns nt nr M V H)) (UQi (CA ad ns nt nr) (fun r H => r = pSAl M ns nr i V ∧ ∃ V2 : SX, CW D cy ad ns nt nr M V2 H)) 0 0 (CA ad ns nt nr) := by
  refine k_body (by decide +kernel) (Nat.le_of_ble_eq_true rfl) ?_
  intro p e s m below meth c ls hx hb hml hown hr hlk hmn hl hG hI
  have hml9 : c.maxLocals = 2 := hml.trans hl.1
  have hl : lv_has ls 2 [(0, .ref (ad 0)), (1, .ref (ad (30 + i)))] := hl
  have hS : va_S (CA ad ns nt nr) s.heap s.heap [] := va_S.rf
  have hw := hI
  refine lv_aload_n hx hb dX6_supposedAlarm_0 rfl (lv_at hl 0 rfl) ?_
  refine lv_aload_n hx hb dX6_supposedAlarm_1 rfl (lv_at hl 1 rfl) ?_
  refine lv_iconst (v := (-1)) hx hb dX6_supposedAlarm_2 (by decide) ?_
  refine kc_uv (kr_V (As := [.ref (ad (30 + i)), .int (-1)]) (rest := []) hx hb hml hown hG (c_X6_gatherSupposed l D cy ad ns nt nr hL M V hA i hi (-1)) cf_X6_gatherSupposed wM_X6_270 hw.o rfl hw ⟨rfl, rfl, by decide, by decide⟩ rfl rfl (Nat.le_of_ble_eq_true rfl) ⟨Nat.le_of_ble_eq_true rfl, Nat.le_of_ble_eq_true rfl⟩ dX6_supposedAlarm_3) hS (fun _ h => h) (fun H1 locs hp1 z1 oq1 hS => ?_)
  have hw : CW D cy ad ns nt nr M (upd V.1 5 (nI (pGS M nr i (-1) V.2.2.2 ns).1), V.2.1, V.2.2.1, (pGS M nr i (-1) V.2.2.2 ns).2) H1 := hp1
  refine lv_aload_n hx hb dX6_supposedAlarm_6 rfl (lv_at hl 0 rfl) ?_
  refine k_get (ci := 6) (C := RX6) (T := TX6) (N := 8) (v := .ref (ad 1)) hx hb hown hG rfl kin_X6 hw.o 3 (by decide) wF_X6_30 rfl dX6_supposedAlarm_7 ?_
  refine kc_uv (kr_VN (As := []) (rest := []) hx hb hml hown hG (c_X2_solve l D cy (ad 1) (fun i => ad (2 + i)) hA.sv V.1 V.2.1 (pGS M nr i (-1) V.2.2.2 ns).1 (Nat.le_trans (pGS_le M nr i (-1) V.2.2.2 ns) hL.1) (vB V) (pGS M nr i (-1) V.2.2.2 ns).2 (pGS M nr i (-1) V.2.2.2 ns).2 (fun _ _ => rfl)) cf_X2_solve wMN_X6_223 hw.sv.1 rfl (by unfold vB; rw [zN_eq]; exact hw.sv) ⟨rfl, rfl, by decide, by decide⟩ rfl rfl (Nat.le_of_ble_eq_true rfl) ⟨Nat.le_of_ble_eq_true rfl, Nat.le_of_ble_eq_true rfl⟩ dX6_supposedAlarm_10) hS CA.sv (fun H1 locs hp1 z1 oq1 hS => ?_)
  obtain ⟨G, hG4, B2, hsv⟩ := hp1
  have hw : CW D cy ad ns nt nr M (zB (zSolve (pGS M nr i (-1) V.2.2.2 ns).2 V.1 (pGS M nr i (-1) V.2.2.2 ns).1 (vB V)) B2, lSolve (pGS M nr i (-1) V.2.2.2 ns).2 V.1 V.2.1 (pGS M nr i (-1) V.2.2.2 ns).1 (vB V), B2.2.2.2, G) H1 := hw.setSv (V' := (zB (zSolve (pGS M nr i (-1) V.2.2.2 ns).2 V.1 (pGS M nr i (-1) V.2.2.2 ns).1 (vB V)) B2, lSolve (pGS M nr i (-1) V.2.2.2 ns).2 V.1 V.2.1 (pGS M nr i (-1) V.2.2.2 ns).1 (vB V), B2.2.2.2, G)) hA hsv oq1
  refine lv_aload_n hx hb dX6_supposedAlarm_13 rfl (lv_at hl 0 rfl) ?_
  refine lv_aload_n hx hb dX6_supposedAlarm_14 rfl (lv_at hl 1 rfl) ?_
  refine lv_iconst (v := 0) hx hb dX6_supposedAlarm_15 (by decide) ?_
  refine kc_i (kr_V (As := [.ref (ad (30 + i)), .int 0]) (rest := []) hx hb hml hown hG (c_X6_alarmOf l D cy ad ns nt nr hL M (zB (zSolve (pGS M nr i (-1) V.2.2.2 ns).2 V.1 (pGS M nr i (-1) V.2.2.2 ns).1 (vB V)) B2, lSolve (pGS M nr i (-1) V.2.2.2 ns).2 V.1 V.2.1 (pGS M nr i (-1) V.2.2.2 ns).1 (vB V), B2.2.2.2, G) i hi 0) cf_X6_alarmOf wM_X6_226 hw.o rfl hw ⟨rfl, rfl, by decide, by decide⟩ rfl rfl (Nat.le_of_ble_eq_true rfl) ⟨Nat.le_of_ble_eq_true rfl, Nat.le_of_ble_eq_true rfl⟩ dX6_supposedAlarm_16) ?_
  exact ke_ui hx hb hr hlk hS dX6_supposedAlarm_19 ⟨pAlarm_zB _ B2 _ _ _ _ _, _, hw⟩
set_option maxHeartbeats 4000000 in
set_option maxRecDepth 100000 in
theorem c_X6_digest (l : Launch) (D : va_G) (cy : Nat → ClassId) (ad : Nat → Nat) (ns nt nr : Nat) (hL : LB ns nt nr) (M : Nat → Nat → Int32) (V : SX) (hA : AI ad ns nt nr) : Met l yX6_digest [.code yX6_digest cX6_digest 4 (some .long)] ({ frames := 6, cells := 0, slots := 0, locals := 140 } : Room) (PC D cy [.ref (ad 0)] (fun H => CW D cy ad ns nt nr M V H)) (UQl (CA ad ns nt nr) (fun r H => r = pDig M ns nt nr V ∧ ∃ V2 : SX, CW D cy ad ns nt nr M V2 H)) 0 0 (CA ad ns nt nr) := by
  refine k_body (by decide +kernel) (Nat.le_of_ble_eq_true rfl) ?_
  intro p e s m below meth c ls hx hb hml hown hr hlk hmn hl hG hI
  have hml9 : c.maxLocals = 4 := hml.trans hl.1
  have hl : lv_has ls 4 [(0, .ref (ad 0))] := hl
  have hS : va_S (CA ad ns nt nr) s.heap s.heap [] := va_S.rf
  have hw := hI
  refine lv_ldc2 hx hb hown (hG.w wK_X6_284 rfl) dX6_digest_0 ?_
  refine lv_lstore_n (lv' := [(1, .long 58189), (0, .ref (ad 0))]) hx hb dX6_digest_3 rfl hl (by decide) rfl (fun ls hl => ?_)
  have hml : c.maxLocals = ls.size := hml9.trans hl.1.symm
  refine lv_iconst (v := 0) hx hb dX6_digest_4 (by decide) ?_
  refine lv_istore_n (lv' := [(3, .int 0), (1, .long 58189), (0, .ref (ad 0))]) hx hb dX6_digest_5 rfl hl (by decide) rfl (fun ls hl => ?_)
  have hml : c.maxLocals = ls.size := hml9.trans hl.1.symm
  have lp6_1 : ∀ (n9 : Nat) (k1 : Nat) (d1 : Int64), 10 - k1 ≤ n9 → k1 ≤ 9 → d1 = pFold (fun k => pCount M ns nt nr (nI k)) k1 58189 →  ∀ ls : Array Slot, lv_has ls 4 [(3, .int (nI k1)), (1, .long d1), (0, .ref (ad 0))] → W p l e ({ frames := 6, cells := 0, slots := 0, locals := 140 } : Room) s m ([.ref (ad 0)] : List Value).toArray below meth c s.heap [] 0 0 (MQ below (UQl (CA ad ns nt nr) (fun r H => r = pDig M ns nt nr V ∧ ∃ V2 : SX, CW D cy ad ns nt nr M V2 H)) ([.ref (ad 0)] : List Value).toArray s 0 0 (CA ad ns nt nr)) (F0 m 6 ls []) := by
    intro n9
    induction n9 with
    | zero =>
      intro k1 d1 h9
      intro h; exact absurd h9 (by omega)
    | succ n9 ih9 =>
      intro k1 d1 hn9 hk1 ed1 ls hl
      have hml : c.maxLocals = ls.size := hml9.trans hl.1.symm
      refine lv_iload_n hx hb dX6_digest_6 rfl (lv_at hl 0 rfl) ?_
      refine lv_bipush (v := 8) hx hb dX6_digest_7 (by decide) ?_
      refine lv_icmp_gt (tgt := 31) hx hb dX6_digest_9 (by decide) (fun c_9 => ?_) (fun c_9 => ?_)
      · have ek1 : k1 = 9 := (g8 k1 hk1).mp c_9
        rw [ek1] at ed1
        refine lv_iconst (v := 0) hx hb dX6_digest_31 (by decide) ?_
        refine lv_istore_n (lv' := [(3, .int 0), (1, .long d1), (0, .ref (ad 0))]) hx hb dX6_digest_32 rfl hl (by decide) rfl (fun ls hl => ?_)
        have hml : c.maxLocals = ls.size := hml9.trans hl.1.symm
        have lp33_2 : ∀ (n9 : Nat) (j : Nat) (d2 : Int64), ns + 1 - j ≤ n9 → j ≤ ns → d2 = pDSts M nt j (pFold (fun k => pCount M ns nt nr (nI k)) 9 58189) →  ∀ ls : Array Slot, lv_has ls 4 [(3, .int (nI j)), (1, .long d2), (0, .ref (ad 0))] → W p l e ({ frames := 6, cells := 0, slots := 0, locals := 140 } : Room) s m ([.ref (ad 0)] : List Value).toArray below meth c s.heap [] 0 0 (MQ below (UQl (CA ad ns nt nr) (fun r H => r = pDig M ns nt nr V ∧ ∃ V2 : SX, CW D cy ad ns nt nr M V2 H)) ([.ref (ad 0)] : List Value).toArray s 0 0 (CA ad ns nt nr)) (F0 m 33 ls []) := by
          intro n9
          induction n9 with
          | zero =>
            intro j d2 h9
            intro h; exact absurd h9 (by omega)
          | succ n9 ih9 =>
            intro j d2 hn9 hj ed2 ls hl
            have hml : c.maxLocals = ls.size := hml9.trans hl.1.symm
            refine lv_iload_n hx hb dX6_digest_33 rfl (lv_at hl 0 rfl) ?_
            refine lv_aload_n hx hb dX6_digest_34 rfl (lv_at hl 2 rfl) ?_
            refine k_get (ci := 6) (C := RX6) (T := TX6) (N := 8) (v := .int (nI ns)) hx hb hown hG rfl kin_X6 hw.o 4 (by decide) wF_X6_47 rfl dX6_digest_35 ?_
            refine lv_icmp_ge (tgt := 59) hx hb dX6_digest_38 (by decide) (fun c_38 => ?_) (fun c_38 => ?_)
            · have enj : j = ns := Nat.le_antisymm hj ((nI_leI (by have := hL.1; have := hL.2.1; have := hL.2.2; omega) (by have := hL.1; have := hL.2.1; have := hL.2.2; omega)).mp c_38)
              rw [enj] at ed2
              refine lv_iconst (v := 0) hx hb dX6_digest_59 (by decide) ?_
              refine lv_istore_n (lv' := [(3, .int 0), (1, .long d2), (0, .ref (ad 0))]) hx hb dX6_digest_60 rfl hl (by decide) rfl (fun ls hl => ?_)
              have hml : c.maxLocals = ls.size := hml9.trans hl.1.symm
              have lp61_3 : ∀ (n9 : Nat) (i : Nat) (d3 : Int64), nr + 1 - i ≤ n9 → i ≤ nr → d3 = pDRcs M ns i (pDSts M nt ns (pFold (fun k => pCount M ns nt nr (nI k)) 9 58189)) →  ∀ ls : Array Slot, lv_has ls 4 [(3, .int (nI i)), (1, .long d3), (0, .ref (ad 0))] → W p l e ({ frames := 6, cells := 0, slots := 0, locals := 140 } : Room) s m ([.ref (ad 0)] : List Value).toArray below meth c s.heap [] 0 0 (MQ below (UQl (CA ad ns nt nr) (fun r H => r = pDig M ns nt nr V ∧ ∃ V2 : SX, CW D cy ad ns nt nr M V2 H)) ([.ref (ad 0)] : List Value).toArray s 0 0 (CA ad ns nt nr)) (F0 m 61 ls []) := by
                intro n9
                induction n9 with
                | zero =>
                  intro i d3 h9
                  intro h; exact absurd h9 (by omega)
                | succ n9 ih9 =>
                  intro i d3 hn9 hi ed3 ls hl
                  have hml : c.maxLocals = ls.size := hml9.trans hl.1.symm
                  refine lv_iload_n hx hb dX6_digest_61 rfl (lv_at hl 0 rfl) ?_
                  refine lv_aload_n hx hb dX6_digest_62 rfl (lv_at hl 2 rfl) ?_
                  refine k_get (ci := 6) (C := RX6) (T := TX6) (N := 8) (v := .int (nI nr)) hx hb hown hG rfl kin_X6 hw.o 6 (by decide) wF_X6_132 rfl dX6_digest_63 ?_
                  refine lv_icmp_ge (tgt := 87) hx hb dX6_digest_66 (by decide) (fun c_66 => ?_) (fun c_66 => ?_)
                  · have eni : i = nr := Nat.le_antisymm hi ((nI_leI (by have := hL.1; have := hL.2.1; have := hL.2.2; omega) (by have := hL.1; have := hL.2.1; have := hL.2.2; omega)).mp c_66)
                    rw [eni] at ed3
                    refine lv_aload_n hx hb dX6_digest_87 rfl (lv_at hl 2 rfl) ?_
                    refine k_get (ci := 6) (C := RX6) (T := TX6) (N := 8) (v := .int (nI nr)) hx hb hown hG rfl kin_X6 hw.o 6 (by decide) wF_X6_132 rfl dX6_digest_88 ?_
                    refine lv_if_le (tgt := 112) hx hb dX6_digest_91 (by decide) (fun c_91 => ?_) (fun c_91 => ?_)
                    · refine lv_lload_n hx hb dX6_digest_112 rfl (lv_at hl 1 rfl) ?_
                      exact ke_ul hx hb hr hlk hS dX6_digest_113 ⟨by unfold pDig pDig0; rw [if_pos c_91, ed3], V, hw⟩
                    · have h0r : 0 < nr := by
                        rcases Nat.eq_zero_or_pos nr with q | q
                        · exact absurd (by rw [q]; decide) c_91
                        · exact q
                      refine lv_lload_n hx hb dX6_digest_94 rfl (lv_at hl 1 rfl) ?_
                      refine lv_ldc2 hx hb hown (hG.w wK_X6_286 rfl) dX6_digest_95 ?_
                      refine lv_lmul hx hb dX6_digest_98 ?_
                      refine lv_aload_n hx hb dX6_digest_99 rfl (lv_at hl 2 rfl) ?_
                      refine lv_aload_n hx hb dX6_digest_100 rfl (lv_at hl 2 rfl) ?_
                      refine k_get (ci := 6) (C := RX6) (T := TX6) (N := 8) (v := .ref (ad 9)) hx hb hown hG rfl kin_X6 hw.o 2 (by decide) wF_X6_23 rfl dX6_digest_101 ?_
                      refine lv_iconst (v := 0) hx hb dX6_digest_104 (by decide) ?_
                      refine k_aldq (v := (ad (30 + 0))) hx hb hG 3 rfl hw.a9 (by exact vp_in_nI (n := 0) (Nat.lt_of_lt_of_le h0r hL.2.2) (by decide)) (by exact aRc (i := 0) h0r hL) dX6_digest_105 ?_
                      refine kc_ui (kr_V (As := [.ref (ad (30 + 0))]) (rest := [.long (d3 * 31)]) hx hb hml hown hG (c_X6_supposedAlarm l D cy ad ns nt nr hL M V hA 0 h0r) cf_X6_supposedAlarm wM_X6_280 hw.o rfl hw ⟨rfl, rfl, by decide, by decide⟩ rfl rfl (Nat.le_of_ble_eq_true rfl) ⟨Nat.le_of_ble_eq_true rfl, Nat.le_of_ble_eq_true rfl⟩ dX6_digest_106) hS (fun _ h => h) (fun r_106 H1 locs hp1 z1 oq1 hS => ?_)
                      obtain ⟨er, V2, hw⟩ := hp1
                      subst er
                      refine lv_i2l (v := (pSAl M ns nr 0 V).toInt64) hx hb dX6_digest_109 rfl ?_
                      refine lv_ladd hx hb dX6_digest_110 ?_
                      refine lv_lstore_n (lv' := [(1, .long ((d3 * 31) + (pSAl M ns nr 0 V).toInt64)), (3, .int (nI i)), (0, .ref (ad 0))]) hx hb dX6_digest_111 rfl hl (by decide) rfl (fun ls hl => ?_)
                      have hml : c.maxLocals = ls.size := hml9.trans hl.1.symm
                      refine lv_lload_n hx hb dX6_digest_112 rfl (lv_at hl 0 rfl) ?_
                      exact ke_ul hx hb hr hlk hS dX6_digest_113 ⟨by unfold pDig pDig0; rw [if_neg c_91, ed3], V2, hw⟩
                  · have hlti : i < nr := by
                      rcases Nat.lt_or_ge i nr with q | q
                      · exact q
                      · exact absurd (nI_le q (by have := hL.1; have := hL.2.1; have := hL.2.2; omega)) c_66
                    refine lv_aload_n hx hb dX6_digest_69 rfl (lv_at hl 2 rfl) ?_
                    refine lv_lload_n hx hb dX6_digest_70 rfl (lv_at hl 1 rfl) ?_
                    refine lv_aload_n hx hb dX6_digest_71 rfl (lv_at hl 2 rfl) ?_
                    refine k_get (ci := 6) (C := RX6) (T := TX6) (N := 8) (v := .ref (ad 9)) hx hb hown hG rfl kin_X6 hw.o 2 (by decide) wF_X6_23 rfl dX6_digest_72 ?_
                    refine lv_iload_n hx hb dX6_digest_75 rfl (lv_at hl 0 rfl) ?_
                    refine k_aldq (v := (ad (30 + i))) hx hb hG 3 rfl hw.a9 (by exact vp_in_nI (n := i) (Nat.lt_of_lt_of_le hlti hL.2.2) (by decide)) (by exact aRc (i := i) hlti hL) dX6_digest_76 ?_
                    refine kc_l (kr_V (As := [.long d3, .ref (ad (30 + i))]) (rest := []) hx hb hml hown hG (c_X6_digestReceiver l D cy ad ns nt nr hL M V d3 i hlti) cf_X6_digestReceiver wM_X6_292 hw.o rfl hw ⟨rfl, rfl, by decide, by decide⟩ rfl rfl (Nat.le_of_ble_eq_true rfl) ⟨Nat.le_of_ble_eq_true rfl, Nat.le_of_ble_eq_true rfl⟩ dX6_digest_77) ?_
                    refine lv_lstore_n (lv' := [(1, .long (pDRc M ns i d3)), (3, .int (nI i)), (0, .ref (ad 0))]) hx hb dX6_digest_80 rfl hl (by decide) rfl (fun ls hl => ?_)
                    have hml : c.maxLocals = ls.size := hml9.trans hl.1.symm
                    refine lv_iinc (v := (nI (i + 1))) (lv' := [(3, .int (nI (i + 1))), (1, .long (pDRc M ns i d3)), (0, .ref (ad 0))]) hx hb dX6_digest_81 hl (k := 1) rfl ((nI_succ i).symm) (by decide) rfl (fun ls hl => ?_)
                    have hml : c.maxLocals = ls.size := hml9.trans hl.1.symm
                    refine lv_goto (tgt := 61) hx hb dX6_digest_84 (by decide) ?_
                    exact ih9 (i + 1) (pDRc M ns i d3) (by omega) hlti (by rw [ed3, pDRcs_s]) ls (lv_sub hl [0, 1, 2] rfl)
              exact lp61_3 (nr + 1) 0 d2 (Nat.le_refl _) (Nat.zero_le _) (by rw [pDRcs_0, ed2]) ls (lv_sub hl [0, 1, 2] rfl)
            · have hltj : j < ns := by
                rcases Nat.lt_or_ge j ns with q | q
                · exact q
                · exact absurd (nI_le q (by have := hL.1; have := hL.2.1; have := hL.2.2; omega)) c_38
              refine lv_aload_n hx hb dX6_digest_41 rfl (lv_at hl 2 rfl) ?_
              refine lv_lload_n hx hb dX6_digest_42 rfl (lv_at hl 1 rfl) ?_
              refine lv_aload_n hx hb dX6_digest_43 rfl (lv_at hl 2 rfl) ?_
              refine k_get (ci := 6) (C := RX6) (T := TX6) (N := 8) (v := .ref (ad 7)) hx hb hown hG rfl kin_X6 hw.o 0 (by decide) wF_X6_11 rfl dX6_digest_44 ?_
              refine lv_iload_n hx hb dX6_digest_47 rfl (lv_at hl 0 rfl) ?_
              refine k_aldq (v := (ad (10 + j))) hx hb hG 1 rfl hw.a7 (by exact vp_in_nI (Nat.lt_of_lt_of_le hltj hL.1) (by decide)) (by exact aSt hltj hL) dX6_digest_48 ?_
              refine kc_l (kr_V (As := [.long d2, .ref (ad (10 + j))]) (rest := []) hx hb hml hown hG (c_X6_digestStar l D cy ad ns nt nr hL M V d2 j hltj) cf_X6_digestStar wM_X6_288 hw.o rfl hw ⟨rfl, rfl, by decide, by decide⟩ rfl rfl (Nat.le_of_ble_eq_true rfl) ⟨Nat.le_of_ble_eq_true rfl, Nat.le_of_ble_eq_true rfl⟩ dX6_digest_49) ?_
              refine lv_lstore_n (lv' := [(1, .long (pDSt M nt j d2)), (3, .int (nI j)), (0, .ref (ad 0))]) hx hb dX6_digest_52 rfl hl (by decide) rfl (fun ls hl => ?_)
              have hml : c.maxLocals = ls.size := hml9.trans hl.1.symm
              refine lv_iinc (v := (nI (j + 1))) (lv' := [(3, .int (nI (j + 1))), (1, .long (pDSt M nt j d2)), (0, .ref (ad 0))]) hx hb dX6_digest_53 hl (k := 1) rfl ((nI_succ j).symm) (by decide) rfl (fun ls hl => ?_)
              have hml : c.maxLocals = ls.size := hml9.trans hl.1.symm
              refine lv_goto (tgt := 33) hx hb dX6_digest_56 (by decide) ?_
              exact ih9 (j + 1) (pDSt M nt j d2) (by omega) hltj (by rw [ed2, pDSts_s]) ls (lv_sub hl [0, 1, 2] rfl)
        exact lp33_2 (ns + 1) 0 d1 (Nat.le_refl _) (Nat.zero_le _) (by rw [pDSts_0, ed1]) ls (lv_sub hl [0, 1, 2] rfl)
      · have hkk1 : k1 < 9 := by
          have := mt (g8 k1 hk1).mpr c_9
          omega
        refine lv_lload_n hx hb dX6_digest_12 rfl (lv_at hl 1 rfl) ?_
        refine lv_ldc2 hx hb hown (hG.w wK_X6_286 rfl) dX6_digest_13 ?_
        refine lv_lmul hx hb dX6_digest_16 ?_
        refine lv_aload_n hx hb dX6_digest_17 rfl (lv_at hl 2 rfl) ?_
        refine lv_iload_n hx hb dX6_digest_18 rfl (lv_at hl 0 rfl) ?_
        refine kc_i (kr_V (As := [.int (nI k1)]) (rest := [.long (d1 * 31)]) hx hb hml hown hG (c_X6_countOf l D cy ad ns nt nr hL M V (nI k1)) cf_X6_countOf wM_X6_257 hw.o rfl hw ⟨rfl, rfl, by decide, by decide⟩ rfl rfl (Nat.le_of_ble_eq_true rfl) ⟨Nat.le_of_ble_eq_true rfl, Nat.le_of_ble_eq_true rfl⟩ dX6_digest_19) ?_
        refine lv_i2l (v := (pCount M ns nt nr (nI k1)).toInt64) hx hb dX6_digest_22 rfl ?_
        refine lv_ladd hx hb dX6_digest_23 ?_
        refine lv_lstore_n (lv' := [(1, .long ((d1 * 31) + (pCount M ns nt nr (nI k1)).toInt64)), (3, .int (nI k1)), (0, .ref (ad 0))]) hx hb dX6_digest_24 rfl hl (by decide) rfl (fun ls hl => ?_)
        have hml : c.maxLocals = ls.size := hml9.trans hl.1.symm
        refine lv_iinc (v := (nI (k1 + 1))) (lv' := [(3, .int (nI (k1 + 1))), (1, .long ((d1 * 31) + (pCount M ns nt nr (nI k1)).toInt64)), (0, .ref (ad 0))]) hx hb dX6_digest_25 hl (k := 1) rfl ((nI_succ k1).symm) (by decide) rfl (fun ls hl => ?_)
        have hml : c.maxLocals = ls.size := hml9.trans hl.1.symm
        refine lv_goto (tgt := 6) hx hb dX6_digest_28 (by decide) ?_
        exact ih9 (k1 + 1) ((d1 * 31) + (pCount M ns nt nr (nI k1)).toInt64) (by omega) (by omega) (by rw [ed1, pFold_s _ k1 _]) ls (lv_sub hl [0, 1, 2] rfl)
  exact lp6_1 10 0 58189 (Nat.le_refl _) (Nat.zero_le _) (by rw [pFold_0]) ls (lv_sub hl [0, 1, 2] rfl)
