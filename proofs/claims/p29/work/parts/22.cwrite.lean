set_option maxHeartbeats 4000000 in
set_option maxRecDepth 100000 in
theorem c_X6_passOne (l : Launch) (D : va_G) (cy : Nat → ClassId) (ad : Nat → Nat) (ns nt nr : Nat) (hL : LB ns nt nr) (M : Nat → Nat → Int32) (V : SX) (hA : AI ad ns nt nr) : Met l yX6_passOne [.code yX6_passOne cX6_passOne 2 none] ({ frames := 4, cells := 0, slots := 0, locals := 85 } : Room) (PC D cy [.ref (ad 0)] (fun H => CW D cy ad ns nt nr M V H)) (UQv (CA ad ns nt nr) (fun H => CW D cy ad ns nt nr (pPass1 M ns) V H)) 0 0 (CA ad ns nt nr) := by
  refine k_body (by decide +kernel) (Nat.le_of_ble_eq_true rfl) ?_
  intro p e s m below meth c ls hx hb hml hown hr hlk hmn hl hG hI
  have hml9 : c.maxLocals = 2 := hml.trans hl.1
  have hl : lv_has ls 2 [(0, .ref (ad 0))] := hl
  have hS : va_S (CA ad ns nt nr) s.heap s.heap [] := va_S.rf
  have hw := hI
  refine lv_aload_n hx hb dX6_passOne_0 rfl (lv_at hl 0 rfl) ?_
  refine lv_dup hx hb dX6_passOne_1 rfl ?_
  refine k_get (ci := 6) (C := RX6) (T := TX6) (N := 8) (v := .int (M 0 0)) hx hb hown hG rfl kin_X6 hw.o 7 (by decide) wF_X6_114 rfl dX6_passOne_2 ?_
  refine lv_iconst (v := 1) hx hb dX6_passOne_5 (by decide) ?_
  refine lv_iadd hx hb dX6_passOne_6 ?_
  refine k_put (ci := 6) (C := RX6) (T := TX6) (N := 8) (v := .int ((M 0 0) + 1)) hx hb hown hG rfl kin_X6 tyX6 tyX6_ok nmX6 hw.o hS (CA.of LV.k0) 7 (by decide) wF_X6_114 rfl rfl rfl (Nat.le_of_ble_eq_true rfl) dX6_passOne_7 (fun H1 locs hP1 z1 oq1 hS => ?_)
  have hw : CW D cy ad ns nt nr (mset M 0 (upd (M 0) 0 ((M 0 0) + 1))) V H1 := hw.setO hA hP1 (fun q _ h => oq1 q h)
  refine lv_iconst (v := 0) hx hb dX6_passOne_10 (by decide) ?_
  refine lv_istore_n (lv' := [(1, .int 0), (0, .ref (ad 0))]) hx hb dX6_passOne_11 rfl hl (by decide) rfl (fun ls hl => ?_)
  have hml : c.maxLocals = ls.size := hml9.trans hl.1.symm
  have lp12_1 : ∀ (n9 : Nat) (i : Nat) (H : Heap) (locs : List Loc), ns + 1 - i ≤ n9 → i ≤ ns → CW D cy ad ns nt nr (pPass1 M i) V H → va_S (CA ad ns nt nr) s.heap H locs →  ∀ ls : Array Slot, lv_has ls 2 [(1, .int (nI i)), (0, .ref (ad 0))] → W p l e ({ frames := 4, cells := 0, slots := 0, locals := 85 } : Room) s m ([.ref (ad 0)] : List Value).toArray below meth c H locs 0 0 (MQ below (UQv (CA ad ns nt nr) (fun H => CW D cy ad ns nt nr (pPass1 M ns) V H)) ([.ref (ad 0)] : List Value).toArray s 0 0 (CA ad ns nt nr)) (F0 m 12 ls []) := by
    intro n9
    induction n9 with
    | zero =>
      intro i H locs h9
      intro hi; exact absurd h9 (by omega)
    | succ n9 ih9 =>
      intro i H locs hn9 hi hw hS ls hl
      have hml : c.maxLocals = ls.size := hml9.trans hl.1.symm
      refine lv_iload_n hx hb dX6_passOne_12 rfl (lv_at hl 0 rfl) ?_
      refine lv_aload_n hx hb dX6_passOne_13 rfl (lv_at hl 1 rfl) ?_
      refine k_get (ci := 6) (C := RX6) (T := TX6) (N := 8) (v := .int (nI ns)) hx hb hown hG rfl kin_X6 hw.o 4 (by decide) wF_X6_47 rfl dX6_passOne_14 ?_
      refine lv_icmp_ge (tgt := 35) hx hb dX6_passOne_17 (by decide) (fun c_17 => ?_) (fun c_17 => ?_)
      · have eni : i = ns := Nat.le_antisymm hi ((nI_leI (by have := hL.1; have := hL.2.1; have := hL.2.2; omega) (by have := hL.1; have := hL.2.1; have := hL.2.2; omega)).mp c_17)
        exact ke_uv hx hb hr hlk hS dX6_passOne_35 (by subst eni; exact hw)
      · have hlti : i < ns := by
          rcases Nat.lt_or_ge i ns with q | q
          · exact q
          · exact absurd (nI_le q (by have := hL.1; have := hL.2.1; have := hL.2.2; omega)) c_17
        have hst := hw.st hL hlti
        rw [pPass1_at] at hst
        refine lv_aload_n hx hb dX6_passOne_20 rfl (lv_at hl 1 rfl) ?_
        refine k_get (ci := 6) (C := RX6) (T := TX6) (N := 8) (v := .ref (ad 7)) hx hb hown hG rfl kin_X6 hw.o 0 (by decide) wF_X6_11 rfl dX6_passOne_21 ?_
        refine lv_iload_n hx hb dX6_passOne_24 rfl (lv_at hl 0 rfl) ?_
        refine k_aldq (v := (ad (10 + i))) hx hb hG 1 rfl hw.a7 (by exact vp_in_nI (Nat.lt_of_lt_of_le hlti hL.1) (by decide)) (by exact aSt hlti hL) dX6_passOne_25 ?_
        refine kc_uv (kr_VN (As := []) (rest := []) hx hb hml hown hG (c_X3_passOne l D cy (ad (10 + i)) (M (10 + i))) cf_X3_passOne wMN_X6_305 hst rfl hst ⟨rfl, rfl, by decide, by decide⟩ rfl rfl (Nat.le_of_ble_eq_true rfl) ⟨Nat.le_of_ble_eq_true rfl, Nat.le_of_ble_eq_true rfl⟩ dX6_passOne_26) hS (fun q h => h ▸ CA.of (LV.st hlti)) (fun H1 locs hp1 z1 oq1 hS => ?_)
        refine lv_iinc (v := (nI (i + 1))) (lv' := [(1, .int (nI (i + 1))), (0, .ref (ad 0))]) hx hb dX6_passOne_29 hl (k := 0) rfl ((nI_succ i).symm) (by decide) rfl (fun ls hl => ?_)
        have hml : c.maxLocals = ls.size := hml9.trans hl.1.symm
        refine lv_goto (tgt := 12) hx hb dX6_passOne_32 (by decide) ?_
        exact ih9 (i + 1) _ _ (by omega) hlti (by rw [← pPass1_s]; exact hw.setSt hA hL hlti hp1 oq1) hS ls (lv_sub hl [0, 1] rfl)
  exact lp12_1 (ns + 1) 0 _ _ (Nat.le_refl _) (Nat.zero_le _) (by rw [← pPass1_0]; exact hw) hS ls (lv_sub hl [0, 1] rfl)
set_option maxHeartbeats 4000000 in
set_option maxRecDepth 100000 in
theorem c_X6_use (l : Launch) (D : va_G) (cy : Nat → ClassId) (ad : Nat → Nat) (ns nt nr : Nat) (hL : LB ns nt nr) (M : Nat → Nat → Int32) (V : SX) (hA : AI ad ns nt nr) (z : Nat → Int32) (lc lb : Int64) (F : Nat → Nat → Int32) (n : Nat) (hn : n < 8) (j : Nat) (hj : j < ns) (co fx : Int32) : Met l yX6_use [.code yX6_use cX6_use 7 none] ({ frames := 2, cells := 0, slots := 0, locals := 42 } : Room) (PC D cy [.ref (ad 0), .ref (ad (10 + j)), .int co, .int fx] (fun H => CW D cy ad ns nt nr M (upd z 5 (nI n), lc, lb, F) H)) (UQv (CA ad ns nt nr) (fun H => CW D cy ad ns nt nr M (upd z 5 (nI (n + 1)), lc, lb, (pPutS F n (M (10 + j)) (M 0 0) co fx)) H)) 0 0 (CA ad ns nt nr) := by
  refine k_body (by decide +kernel) (Nat.le_of_ble_eq_true rfl) ?_
  intro p e s m below meth c ls hx hb hml hown hr hlk hmn hl hG hI
  have hml9 : c.maxLocals = 7 := hml.trans hl.1
  have hl : lv_has ls 7 [(0, .ref (ad 0)), (1, .ref (ad (10 + j))), (2, .int co), (3, .int fx)] := hl
  have hS : va_S (CA ad ns nt nr) s.heap s.heap [] := va_S.rf
  have hw := hI
  refine lv_aload_n hx hb dX6_use_0 rfl (lv_at hl 1 rfl) ?_
  refine lv_aload_n hx hb dX6_use_1 rfl (lv_at hl 0 rfl) ?_
  refine k_get (ci := 6) (C := RX6) (T := TX6) (N := 8) (v := .int (M 0 0)) hx hb hown hG rfl kin_X6 hw.o 7 (by decide) wF_X6_114 rfl dX6_use_2 ?_
  refine kc_i (kr_VN (As := [.int (M 0 0)]) (rest := []) hx hb hml hown hG (c_X3_toldX l D cy (ad (10 + j)) (M (10 + j)) (M 0 0)) cf_X3_toldX wMN_X6_358 (hw.st hL hj) rfl (hw.st hL hj) ⟨rfl, rfl, by decide, by decide⟩ rfl rfl (Nat.le_of_ble_eq_true rfl) ⟨Nat.le_of_ble_eq_true rfl, Nat.le_of_ble_eq_true rfl⟩ dX6_use_5) ?_
  refine lv_istore (lv' := [(4, .int (pTX (M (10 + j)) (M 0 0))), (0, .ref (ad 0)), (1, .ref (ad (10 + j))), (2, .int co), (3, .int fx)]) hx hb dX6_use_8 hl (by decide) rfl (fun ls hl => ?_)
  have hml : c.maxLocals = ls.size := hml9.trans hl.1.symm
  refine lv_aload_n hx hb dX6_use_10 rfl (lv_at hl 2 rfl) ?_
  refine lv_aload_n hx hb dX6_use_11 rfl (lv_at hl 1 rfl) ?_
  refine k_get (ci := 6) (C := RX6) (T := TX6) (N := 8) (v := .int (M 0 0)) hx hb hown hG rfl kin_X6 hw.o 7 (by decide) wF_X6_114 rfl dX6_use_12 ?_
  refine kc_i (kr_VN (As := [.int (M 0 0)]) (rest := []) hx hb hml hown hG (c_X3_toldY l D cy (ad (10 + j)) (M (10 + j)) (M 0 0)) cf_X3_toldY wMN_X6_361 (hw.st hL hj) rfl (hw.st hL hj) ⟨rfl, rfl, by decide, by decide⟩ rfl rfl (Nat.le_of_ble_eq_true rfl) ⟨Nat.le_of_ble_eq_true rfl, Nat.le_of_ble_eq_true rfl⟩ dX6_use_15) ?_
  refine lv_istore (lv' := [(5, .int (pTY (M (10 + j)) (M 0 0))), (4, .int (pTX (M (10 + j)) (M 0 0))), (0, .ref (ad 0)), (1, .ref (ad (10 + j))), (2, .int co), (3, .int fx)]) hx hb dX6_use_18 hl (by decide) rfl (fun ls hl => ?_)
  have hml : c.maxLocals = ls.size := hml9.trans hl.1.symm
  refine lv_iload_n hx hb dX6_use_20 rfl (lv_at hl 5 rfl) ?_
  refine lv_if_eq (tgt := 28) hx hb dX6_use_21 (by decide) (fun c_21 => ?_) (fun c_21 => ?_)
  · refine lv_iload hx hb dX6_use_28 (lv_at hl 0 rfl) ?_
    refine lv_iload hx hb dX6_use_30 (lv_at hl 1 rfl) ?_
    refine k_mabs hx hb hml hown hG wM_X6_302 (Nat.le_of_ble_eq_true rfl) (Nat.le_of_ble_eq_true rfl) (Nat.le_of_ble_eq_true rfl) (Nat.le_of_ble_eq_true rfl) dX6_use_32 ?_
    refine lv_icmp_le (tgt := 42) hx hb dX6_use_35 (by decide) (fun c_35 => ?_) (fun c_35 => ?_)
    · refine lv_iconst (v := 1) hx hb dX6_use_42 (by decide) ?_
      refine lv_istore (lv' := [(6, .int 1), (5, .int (pTY (M (10 + j)) (M 0 0))), (4, .int (pTX (M (10 + j)) (M 0 0))), (0, .ref (ad 0)), (1, .ref (ad (10 + j))), (2, .int co), (3, .int fx)]) hx hb dX6_use_43 hl (by decide) rfl (fun ls hl => ?_)
      have hml : c.maxLocals = ls.size := hml9.trans hl.1.symm
      refine lv_aload_n hx hb dX6_use_45 rfl (lv_at hl 3 rfl) ?_
      refine k_get (ci := 6) (C := RX6) (T := TX6) (N := 8) (v := .ref (ad 1)) hx hb hown hG rfl kin_X6 hw.o 3 (by decide) wF_X6_30 rfl dX6_use_46 ?_
      refine lv_iload hx hb dX6_use_49 (lv_at hl 2 rfl) ?_
      refine lv_iload hx hb dX6_use_51 (lv_at hl 1 rfl) ?_
      refine lv_iload_n hx hb dX6_use_53 rfl (lv_at hl 5 rfl) ?_
      refine lv_aload_n hx hb dX6_use_54 rfl (lv_at hl 4 rfl) ?_
      refine lv_aload_n hx hb dX6_use_55 rfl (lv_at hl 3 rfl) ?_
      refine k_get (ci := 6) (C := RX6) (T := TX6) (N := 8) (v := .int (M 0 0)) hx hb hown hG rfl kin_X6 hw.o 7 (by decide) wF_X6_114 rfl dX6_use_56 ?_
      refine kc_i (kr_VN (As := [.int (M 0 0)]) (rest := [.int co, .int (pTY (M (10 + j)) (M 0 0)), .int (pTX (M (10 + j)) (M 0 0)), .ref (ad 1)]) hx hb hml hown hG (c_X3_toldClock l D cy (ad (10 + j)) (M (10 + j)) (M 0 0)) cf_X3_toldClock wMN_X6_364 (hw.st hL hj) rfl (hw.st hL hj) ⟨rfl, rfl, by decide, by decide⟩ rfl rfl (Nat.le_of_ble_eq_true rfl) ⟨Nat.le_of_ble_eq_true rfl, Nat.le_of_ble_eq_true rfl⟩ dX6_use_59) ?_
      refine lv_isub hx hb dX6_use_62 ?_
      refine lv_iload hx hb dX6_use_63 (lv_at hl 0 rfl) ?_
      refine kc_uv (kr_VN (As := [.int (pTX (M (10 + j)) (M 0 0)), .int (pTY (M (10 + j)) (M 0 0)), .int (co - (pTC (M (10 + j)) (M 0 0))), .int 1]) (rest := []) hx hb hml hown hG (c_X2_use l D cy (ad 1) (fun i => ad (2 + i)) hA.sv z lc lb F n hn (pTX (M (10 + j)) (M 0 0)) (pTY (M (10 + j)) (M 0 0)) (co - (pTC (M (10 + j)) (M 0 0))) 1) cf_X2_use wMN_X6_367 hw.sv.1 rfl hw.sv ⟨rfl, rfl, by decide, by decide⟩ rfl rfl (Nat.le_of_ble_eq_true rfl) ⟨Nat.le_of_ble_eq_true rfl, Nat.le_of_ble_eq_true rfl⟩ dX6_use_65) hS CA.sv (fun H1 locs hp1 z1 oq1 hS => ?_)
      have hw : CW D cy ad ns nt nr M (upd z 5 (nI (n + 1)), lc, lb, (pPut F n (pTX (M (10 + j)) (M 0 0)) (pTY (M (10 + j)) (M 0 0)) (co - (pTC (M (10 + j)) (M 0 0))) 1)) H1 := hw.setSv (V' := (upd z 5 (nI (n + 1)), lc, lb, (pPut F n (pTX (M (10 + j)) (M 0 0)) (pTY (M (10 + j)) (M 0 0)) (co - (pTC (M (10 + j)) (M 0 0))) 1))) hA hp1 oq1
      exact ke_uv hx hb hr hlk hS dX6_use_68 (by unfold pPutS pUseW; rw [if_pos c_21, if_pos c_35]; exact hw)
    · refine lv_iconst (v := 2) hx hb dX6_use_38 (by decide) ?_
      refine lv_goto (tgt := 43) hx hb dX6_use_39 (by decide) ?_
      refine lv_istore (lv' := [(6, .int 2), (5, .int (pTY (M (10 + j)) (M 0 0))), (4, .int (pTX (M (10 + j)) (M 0 0))), (0, .ref (ad 0)), (1, .ref (ad (10 + j))), (2, .int co), (3, .int fx)]) hx hb dX6_use_43 hl (by decide) rfl (fun ls hl => ?_)
      have hml : c.maxLocals = ls.size := hml9.trans hl.1.symm
      refine lv_aload_n hx hb dX6_use_45 rfl (lv_at hl 3 rfl) ?_
      refine k_get (ci := 6) (C := RX6) (T := TX6) (N := 8) (v := .ref (ad 1)) hx hb hown hG rfl kin_X6 hw.o 3 (by decide) wF_X6_30 rfl dX6_use_46 ?_
      refine lv_iload hx hb dX6_use_49 (lv_at hl 2 rfl) ?_
      refine lv_iload hx hb dX6_use_51 (lv_at hl 1 rfl) ?_
      refine lv_iload_n hx hb dX6_use_53 rfl (lv_at hl 5 rfl) ?_
      refine lv_aload_n hx hb dX6_use_54 rfl (lv_at hl 4 rfl) ?_
      refine lv_aload_n hx hb dX6_use_55 rfl (lv_at hl 3 rfl) ?_
      refine k_get (ci := 6) (C := RX6) (T := TX6) (N := 8) (v := .int (M 0 0)) hx hb hown hG rfl kin_X6 hw.o 7 (by decide) wF_X6_114 rfl dX6_use_56 ?_
      refine kc_i (kr_VN (As := [.int (M 0 0)]) (rest := [.int co, .int (pTY (M (10 + j)) (M 0 0)), .int (pTX (M (10 + j)) (M 0 0)), .ref (ad 1)]) hx hb hml hown hG (c_X3_toldClock l D cy (ad (10 + j)) (M (10 + j)) (M 0 0)) cf_X3_toldClock wMN_X6_364 (hw.st hL hj) rfl (hw.st hL hj) ⟨rfl, rfl, by decide, by decide⟩ rfl rfl (Nat.le_of_ble_eq_true rfl) ⟨Nat.le_of_ble_eq_true rfl, Nat.le_of_ble_eq_true rfl⟩ dX6_use_59) ?_
      refine lv_isub hx hb dX6_use_62 ?_
      refine lv_iload hx hb dX6_use_63 (lv_at hl 0 rfl) ?_
      refine kc_uv (kr_VN (As := [.int (pTX (M (10 + j)) (M 0 0)), .int (pTY (M (10 + j)) (M 0 0)), .int (co - (pTC (M (10 + j)) (M 0 0))), .int 2]) (rest := []) hx hb hml hown hG (c_X2_use l D cy (ad 1) (fun i => ad (2 + i)) hA.sv z lc lb F n hn (pTX (M (10 + j)) (M 0 0)) (pTY (M (10 + j)) (M 0 0)) (co - (pTC (M (10 + j)) (M 0 0))) 2) cf_X2_use wMN_X6_367 hw.sv.1 rfl hw.sv ⟨rfl, rfl, by decide, by decide⟩ rfl rfl (Nat.le_of_ble_eq_true rfl) ⟨Nat.le_of_ble_eq_true rfl, Nat.le_of_ble_eq_true rfl⟩ dX6_use_65) hS CA.sv (fun H1 locs hp1 z1 oq1 hS => ?_)
      have hw : CW D cy ad ns nt nr M (upd z 5 (nI (n + 1)), lc, lb, (pPut F n (pTX (M (10 + j)) (M 0 0)) (pTY (M (10 + j)) (M 0 0)) (co - (pTC (M (10 + j)) (M 0 0))) 2)) H1 := hw.setSv (V' := (upd z 5 (nI (n + 1)), lc, lb, (pPut F n (pTX (M (10 + j)) (M 0 0)) (pTY (M (10 + j)) (M 0 0)) (co - (pTC (M (10 + j)) (M 0 0))) 2))) hA hp1 oq1
      exact ke_uv hx hb hr hlk hS dX6_use_68 (by unfold pPutS pUseW; rw [if_pos c_21, if_neg c_35]; exact hw)
  · refine lv_iconst (v := 4) hx hb dX6_use_24 (by decide) ?_
    refine lv_goto (tgt := 43) hx hb dX6_use_25 (by decide) ?_
    refine lv_istore (lv' := [(6, .int 4), (5, .int (pTY (M (10 + j)) (M 0 0))), (4, .int (pTX (M (10 + j)) (M 0 0))), (0, .ref (ad 0)), (1, .ref (ad (10 + j))), (2, .int co), (3, .int fx)]) hx hb dX6_use_43 hl (by decide) rfl (fun ls hl => ?_)
    have hml : c.maxLocals = ls.size := hml9.trans hl.1.symm
    refine lv_aload_n hx hb dX6_use_45 rfl (lv_at hl 3 rfl) ?_
    refine k_get (ci := 6) (C := RX6) (T := TX6) (N := 8) (v := .ref (ad 1)) hx hb hown hG rfl kin_X6 hw.o 3 (by decide) wF_X6_30 rfl dX6_use_46 ?_
    refine lv_iload hx hb dX6_use_49 (lv_at hl 2 rfl) ?_
    refine lv_iload hx hb dX6_use_51 (lv_at hl 1 rfl) ?_
    refine lv_iload_n hx hb dX6_use_53 rfl (lv_at hl 5 rfl) ?_
    refine lv_aload_n hx hb dX6_use_54 rfl (lv_at hl 4 rfl) ?_
    refine lv_aload_n hx hb dX6_use_55 rfl (lv_at hl 3 rfl) ?_
    refine k_get (ci := 6) (C := RX6) (T := TX6) (N := 8) (v := .int (M 0 0)) hx hb hown hG rfl kin_X6 hw.o 7 (by decide) wF_X6_114 rfl dX6_use_56 ?_
    refine kc_i (kr_VN (As := [.int (M 0 0)]) (rest := [.int co, .int (pTY (M (10 + j)) (M 0 0)), .int (pTX (M (10 + j)) (M 0 0)), .ref (ad 1)]) hx hb hml hown hG (c_X3_toldClock l D cy (ad (10 + j)) (M (10 + j)) (M 0 0)) cf_X3_toldClock wMN_X6_364 (hw.st hL hj) rfl (hw.st hL hj) ⟨rfl, rfl, by decide, by decide⟩ rfl rfl (Nat.le_of_ble_eq_true rfl) ⟨Nat.le_of_ble_eq_true rfl, Nat.le_of_ble_eq_true rfl⟩ dX6_use_59) ?_
    refine lv_isub hx hb dX6_use_62 ?_
    refine lv_iload hx hb dX6_use_63 (lv_at hl 0 rfl) ?_
    refine kc_uv (kr_VN (As := [.int (pTX (M (10 + j)) (M 0 0)), .int (pTY (M (10 + j)) (M 0 0)), .int (co - (pTC (M (10 + j)) (M 0 0))), .int 4]) (rest := []) hx hb hml hown hG (c_X2_use l D cy (ad 1) (fun i => ad (2 + i)) hA.sv z lc lb F n hn (pTX (M (10 + j)) (M 0 0)) (pTY (M (10 + j)) (M 0 0)) (co - (pTC (M (10 + j)) (M 0 0))) 4) cf_X2_use wMN_X6_367 hw.sv.1 rfl hw.sv ⟨rfl, rfl, by decide, by decide⟩ rfl rfl (Nat.le_of_ble_eq_true rfl) ⟨Nat.le_of_ble_eq_true rfl, Nat.le_of_ble_eq_true rfl⟩ dX6_use_65) hS CA.sv (fun H1 locs hp1 z1 oq1 hS => ?_)
    have hw : CW D cy ad ns nt nr M (upd z 5 (nI (n + 1)), lc, lb, (pPut F n (pTX (M (10 + j)) (M 0 0)) (pTY (M (10 + j)) (M 0 0)) (co - (pTC (M (10 + j)) (M 0 0))) 4)) H1 := hw.setSv (V' := (upd z 5 (nI (n + 1)), lc, lb, (pPut F n (pTX (M (10 + j)) (M 0 0)) (pTY (M (10 + j)) (M 0 0)) (co - (pTC (M (10 + j)) (M 0 0))) 4))) hA hp1 oq1
    exact ke_uv hx hb hr hlk hS dX6_use_68 (by unfold pPutS pUseW; rw [if_neg c_21]; exact hw)
set_option maxHeartbeats 4000000 in
set_option maxRecDepth 100000 in
theorem c_X6_measure (l : Launch) (D : va_G) (cy : Nat → ClassId) (ad : Nat → Nat) (ns nt nr : Nat) (hL : LB ns nt nr) (M : Nat → Nat → Int32) (V : SX) (hA : AI ad ns nt nr) (i : Nat) (hi : i < nr) : Met l yX6_measure [.code yX6_measure cX6_measure 6 none] ({ frames := 4, cells := 0, slots := 0, locals := 92 } : Room) (PC D cy [.ref (ad 0), .ref (ad (30 + i))] (fun H => CW D cy ad ns nt nr M V H)) (UQv (CA ad ns nt nr) (fun H => CW D cy ad ns nt nr (pMs M i ns) V H)) 0 0 (CA ad ns nt nr) := by
  refine k_body (by decide +kernel) (Nat.le_of_ble_eq_true rfl) ?_
  intro p e s m below meth c ls hx hb hml hown hr hlk hmn hl hG hI
  have hml9 : c.maxLocals = 6 := hml.trans hl.1
  have hl : lv_has ls 6 [(0, .ref (ad 0)), (1, .ref (ad (30 + i)))] := hl
  have hS : va_S (CA ad ns nt nr) s.heap s.heap [] := va_S.rf
  have hw := hI
  refine lv_aload_n hx hb dX6_measure_0 rfl (lv_at hl 1 rfl) ?_
  refine k_getN (ci := 0) (C := RX0) (T := TX0) (N := 13) (v := .ref (ad (50 + i))) hx hb hown hG rfl kin_X0 (hw.rc hL hi) 3 (by decide) wFN_X6_202 rfl dX6_measure_1 ?_
  refine lv_aload_n hx hb dX6_measure_4 rfl (lv_at hl 0 rfl) ?_
  refine k_get (ci := 6) (C := RX6) (T := TX6) (N := 8) (v := .int (M 0 0)) hx hb hown hG rfl kin_X6 hw.o 7 (by decide) wF_X6_114 rfl dX6_measure_5 ?_
  refine lv_iconst (v := 1) hx hb dX6_measure_8 (by decide) ?_
  refine lv_isub hx hb dX6_measure_9 ?_
  refine kc_i (kr_VN (As := [.int ((M 0 0) - 1)]) (rest := []) hx hb hml hown hG (c_X5_hasObservedIn l D cy (ad (50 + i)) (M (50 + i)) ((M 0 0) - 1)) cf_X5_hasObservedIn wMN_X6_206 (hw.tk hL hi) rfl (hw.tk hL hi) ⟨rfl, rfl, by decide, by decide⟩ rfl rfl (Nat.le_of_ble_eq_true rfl) ⟨Nat.le_of_ble_eq_true rfl, Nat.le_of_ble_eq_true rfl⟩ dX6_measure_10) ?_
  refine lv_istore_n (lv' := [(2, .int (bI (pObsIn (M (50 + i)) ((M 0 0) - 1)))), (0, .ref (ad 0)), (1, .ref (ad (30 + i)))]) hx hb dX6_measure_13 rfl hl (by decide) rfl (fun ls hl => ?_)
  have hml : c.maxLocals = ls.size := hml9.trans hl.1.symm
  refine lv_iconst (v := 0) hx hb dX6_measure_14 (by decide) ?_
  refine lv_istore_n (lv' := [(3, .int 0), (2, .int (bI (pObsIn (M (50 + i)) ((M 0 0) - 1)))), (0, .ref (ad 0)), (1, .ref (ad (30 + i)))]) hx hb dX6_measure_15 rfl hl (by decide) rfl (fun ls hl => ?_)
  have hml : c.maxLocals = ls.size := hml9.trans hl.1.symm
  have lp16_1 : ∀ (n9 : Nat) (j : Nat) (H : Heap) (locs : List Loc), ns + 1 - j ≤ n9 → j ≤ ns → CW D cy ad ns nt nr (pSgs M i j (fMs M i)) V H → va_S (CA ad ns nt nr) s.heap H locs →  ∀ ls : Array Slot, lv_has ls 6 [(3, .int (nI j)), (2, .int (bI (pObsIn (M (50 + i)) ((M 0 0) - 1)))), (0, .ref (ad 0)), (1, .ref (ad (30 + i)))] → W p l e ({ frames := 4, cells := 0, slots := 0, locals := 92 } : Room) s m ([.ref (ad 0), .ref (ad (30 + i))] : List Value).toArray below meth c H locs 0 0 (MQ below (UQv (CA ad ns nt nr) (fun H => CW D cy ad ns nt nr (pMs M i ns) V H)) ([.ref (ad 0), .ref (ad (30 + i))] : List Value).toArray s 0 0 (CA ad ns nt nr)) (F0 m 16 ls []) := by
    intro n9
    induction n9 with
    | zero =>
      intro j H locs h9
      intro hj; exact absurd h9 (by omega)
    | succ n9 ih9 =>
      intro j H locs hn9 hj hw hS ls hl
      have hml : c.maxLocals = ls.size := hml9.trans hl.1.symm
      refine lv_iload_n hx hb dX6_measure_16 rfl (lv_at hl 0 rfl) ?_
      refine lv_aload_n hx hb dX6_measure_17 rfl (lv_at hl 2 rfl) ?_
      refine k_get (ci := 6) (C := RX6) (T := TX6) (N := 8) (v := .int (nI ns)) hx hb hown hG rfl kin_X6 hw.o 4 (by decide) wF_X6_47 rfl dX6_measure_18 ?_
      refine lv_icmp_ge (tgt := 91) hx hb dX6_measure_21 (by decide) (fun c_21 => ?_) (fun c_21 => ?_)
      · have enj : j = ns := Nat.le_antisymm hj ((nI_leI (by have := hL.1; have := hL.2.1; have := hL.2.2; omega) (by have := hL.1; have := hL.2.1; have := hL.2.2; omega)).mp c_21)
        exact ke_uv hx hb hr hlk hS dX6_measure_91 (by unfold pMs; subst enj; exact hw)
      · have hltj : j < ns := by
          rcases Nat.lt_or_ge j ns with q | q
          · exact q
          · exact absurd (nI_le q (by have := hL.1; have := hL.2.1; have := hL.2.2; omega)) c_21
        have hj8 : j < 8 := Nat.lt_of_lt_of_le hltj hL.1
        have hM60 : ∀ k, k < 60 → (pSgs M i j (fMs M i)) k = M k := fun k hk => pSgs_lo M i j (fMs M i) hk
        have ho := hw.o
        rw [hM60 0 (by omega)] at ho
        have hst := hw.st hL hltj
        rw [hM60 _ (by have := hL.1; have := hL.2.2; omega)] at hst
        have hrc := hw.rc hL hi
        rw [hM60 _ (by have := hL.1; have := hL.2.2; omega)] at hrc
        have htk := hw.tk hL hi
        rw [hM60 _ (by have := hL.1; have := hL.2.2; omega)] at htk
        have hsg := hw.sg hL hi hj8
        rw [pSgs_at] at hsg
        refine lv_aload_n hx hb dX6_measure_24 rfl (lv_at hl 3 rfl) ?_
        refine k_getN (ci := 0) (C := RX0) (T := TX0) (N := 13) (v := .ref (ad (40 + i))) hx hb hown hG rfl kin_X0 hrc 2 (by decide) wFN_X6_247 rfl dX6_measure_25 ?_
        refine lv_iload_n hx hb dX6_measure_28 rfl (lv_at hl 0 rfl) ?_
        refine k_aldq (v := (ad (60 + 8 * i + j))) hx hb hG 4 rfl (hw.ga hL hi) (by exact vp_in_nI hj8 (by decide)) (by exact aSg (i := i) hj8) dX6_measure_29 ?_
        refine lv_astore (lv' := [(4, .ref (ad (60 + 8 * i + j))), (3, .int (nI j)), (2, .int (bI (pObsIn (M (50 + i)) ((M 0 0) - 1)))), (0, .ref (ad 0)), (1, .ref (ad (30 + i)))]) hx hb dX6_measure_30 hl (by decide) rfl (fun ls hl => ?_)
        have hml : c.maxLocals = ls.size := hml9.trans hl.1.symm
        refine lv_aload_n hx hb dX6_measure_32 rfl (lv_at hl 4 rfl) ?_
        refine lv_aload_n hx hb dX6_measure_33 rfl (lv_at hl 3 rfl) ?_
        refine k_get (ci := 6) (C := RX6) (T := TX6) (N := 8) (v := .ref (ad 7)) hx hb hown hG rfl kin_X6 ho 0 (by decide) wF_X6_11 rfl dX6_measure_34 ?_
        refine lv_iload_n hx hb dX6_measure_37 rfl (lv_at hl 1 rfl) ?_
        refine k_aldq (v := (ad (10 + j))) hx hb hG 1 rfl hw.a7 (by exact vp_in_nI (Nat.lt_of_lt_of_le hltj hL.1) (by decide)) (by exact aSt hltj hL) dX6_measure_38 ?_
        refine lv_iconst (v := 0) hx hb dX6_measure_39 (by decide) ?_
        refine kc_i (kr_VN (As := [.ref (ad (10 + j)), .int 0]) (rest := []) hx hb hml hown hG (c_X0_canSee l D cy (ad (30 + i)) (ad (10 + j)) (ad (40 + i)) (ad (50 + i)) (M (30 + i)) (M (10 + j)) 0) cf_X0_canSee wMN_X6_306 hrc rfl ⟨hrc, hst⟩ ⟨rfl, rfl, by decide, by decide⟩ rfl rfl (Nat.le_of_ble_eq_true rfl) ⟨Nat.le_of_ble_eq_true rfl, Nat.le_of_ble_eq_true rfl⟩ dX6_measure_40) ?_
        refine lv_if_eq (tgt := 80) hx hb dX6_measure_43 (by decide) (fun c_43 => ?_) (fun c_43 => ?_)
        · refine lv_aload hx hb dX6_measure_80 (lv_at hl 0 rfl) ?_
          refine kc_uv (kr_VN (As := []) (rest := []) hx hb hml hown hG (c_X1_lose l D cy (ad (60 + 8 * i + j)) (M (60 + 8 * i + j))) cf_X1_lose wMN_X6_320 hsg rfl hsg ⟨rfl, rfl, by decide, by decide⟩ rfl rfl (Nat.le_of_ble_eq_true rfl) ⟨Nat.le_of_ble_eq_true rfl, Nat.le_of_ble_eq_true rfl⟩ dX6_measure_82) hS (fun q h => h ▸ CA.of (LV.sg hi hj8)) (fun H1 locs hp1 z1 oq1 hS => ?_)
          refine lv_iinc (v := (nI (j + 1))) (lv' := [(3, .int (nI (j + 1))), (4, .ref (ad (60 + 8 * i + j))), (2, .int (bI (pObsIn (M (50 + i)) ((M 0 0) - 1)))), (0, .ref (ad 0)), (1, .ref (ad (30 + i)))]) hx hb dX6_measure_85 hl (k := 1) rfl ((nI_succ j).symm) (by decide) rfl (fun ls hl => ?_)
          have hml : c.maxLocals = ls.size := hml9.trans hl.1.symm
          refine lv_goto (tgt := 16) hx hb dX6_measure_88 (by decide) ?_
          exact ih9 (j + 1) _ _ (by omega) hltj (by rw [← pSgs_s]; unfold fMs; rw [if_pos c_43]; exact hw.setSg hA hL hi hj8 hp1 oq1) hS ls (lv_sub hl [0, 2, 3, 4] rfl)
        · refine lv_aload_n hx hb dX6_measure_46 rfl (lv_at hl 4 rfl) ?_
          refine lv_aload_n hx hb dX6_measure_47 rfl (lv_at hl 3 rfl) ?_
          refine k_get (ci := 6) (C := RX6) (T := TX6) (N := 8) (v := .ref (ad 7)) hx hb hown hG rfl kin_X6 ho 0 (by decide) wF_X6_11 rfl dX6_measure_48 ?_
          refine lv_iload_n hx hb dX6_measure_51 rfl (lv_at hl 1 rfl) ?_
          refine k_aldq (v := (ad (10 + j))) hx hb hG 1 rfl hw.a7 (by exact vp_in_nI (Nat.lt_of_lt_of_le hltj hL.1) (by decide)) (by exact aSt hltj hL) dX6_measure_52 ?_
          refine kc_i (kr_VN (As := [.ref (ad (10 + j))]) (rest := []) hx hb hml hown hG (c_X0_trueCount l D cy (ad (30 + i)) (ad (10 + j)) (ad (40 + i)) (ad (50 + i)) (M (30 + i)) (M (10 + j)) ) cf_X0_trueCount wMN_X6_309 hrc rfl ⟨hrc, hst⟩ ⟨rfl, rfl, by decide, by decide⟩ rfl rfl (Nat.le_of_ble_eq_true rfl) ⟨Nat.le_of_ble_eq_true rfl, Nat.le_of_ble_eq_true rfl⟩ dX6_measure_53) ?_
          refine lv_istore (lv' := [(5, .int (pTrue (M (30 + i)) (M (10 + j)))), (4, .ref (ad (60 + 8 * i + j))), (3, .int (nI j)), (2, .int (bI (pObsIn (M (50 + i)) ((M 0 0) - 1)))), (0, .ref (ad 0)), (1, .ref (ad (30 + i)))]) hx hb dX6_measure_56 hl (by decide) rfl (fun ls hl => ?_)
          have hml : c.maxLocals = ls.size := hml9.trans hl.1.symm
          refine lv_aload hx hb dX6_measure_58 (lv_at hl 1 rfl) ?_
          refine lv_aload_n hx hb dX6_measure_60 rfl (lv_at hl 4 rfl) ?_
          refine lv_aload_n hx hb dX6_measure_61 rfl (lv_at hl 5 rfl) ?_
          refine lv_iload_n hx hb dX6_measure_62 rfl (lv_at hl 2 rfl) ?_
          refine kc_i (kr_V (As := [.ref (ad (30 + i)), .int (nI j)]) (rest := [.ref (ad (60 + 8 * i + j))]) hx hb hml hown hG (c_X6_codeOf l D cy ad ns nt nr hL (pSgs M i j (fMs M i)) V i j hi hltj) cf_X6_codeOf wM_X6_313 hw.o rfl hw ⟨rfl, rfl, by decide, by decide⟩ rfl rfl (Nat.le_of_ble_eq_true rfl) ⟨Nat.le_of_ble_eq_true rfl, Nat.le_of_ble_eq_true rfl⟩ dX6_measure_63) ?_
          refine lv_topi (fun cd ecd => ?_)
          rw [hM60 0 (by omega), hM60 (30 + i) (by have := hL.2.2; omega), hM60 (10 + j) (by omega)] at ecd
          refine lv_iload hx hb dX6_measure_66 (lv_at hl 0 rfl) ?_
          refine lv_bipush (v := 10) hx hb dX6_measure_68 (by decide) ?_
          refine kc_i (kr_S (As := [.int (pTrue (M (30 + i)) (M (10 + j))), .int 10]) (rest := [.int cd, .ref (ad (60 + 8 * i + j))]) hx hb hml hown hG (c_J9_floorMod_7cf53 l D cy (pTrue (M (30 + i)) (M (10 + j))) 10 (by decide)) cf_J9_floorMod_7cf53 wM_X6_73 trivial ⟨rfl, rfl, by decide, by decide⟩ rfl rfl (Nat.le_of_ble_eq_true rfl) ⟨Nat.le_of_ble_eq_true rfl, Nat.le_of_ble_eq_true rfl⟩ dX6_measure_70) ?_
          refine lv_iload_n hx hb dX6_measure_73 rfl (lv_at hl 3 rfl) ?_
          refine kc_uv (kr_VN (As := [.int cd, .int (pFMod (pTrue (M (30 + i)) (M (10 + j))) 10), .int (bI (pObsIn (M (50 + i)) ((M 0 0) - 1)))]) (rest := []) hx hb hml hown hG (c_X1_take l D cy (ad (60 + 8 * i + j)) (M (60 + 8 * i + j)) cd (pFMod (pTrue (M (30 + i)) (M (10 + j))) 10) (bI (pObsIn (M (50 + i)) ((M 0 0) - 1)))) cf_X1_take wMN_X6_316 hsg rfl hsg ⟨rfl, rfl, by decide, by decide⟩ rfl rfl (Nat.le_of_ble_eq_true rfl) ⟨Nat.le_of_ble_eq_true rfl, Nat.le_of_ble_eq_true rfl⟩ dX6_measure_74) hS (fun q h => h ▸ CA.of (LV.sg hi hj8)) (fun H1 locs hp1 z1 oq1 hS => ?_)
          refine lv_goto (tgt := 85) hx hb dX6_measure_77 (by decide) ?_
          refine lv_iinc (v := (nI (j + 1))) (lv' := [(3, .int (nI (j + 1))), (5, .int (pTrue (M (30 + i)) (M (10 + j)))), (4, .ref (ad (60 + 8 * i + j))), (2, .int (bI (pObsIn (M (50 + i)) ((M 0 0) - 1)))), (0, .ref (ad 0)), (1, .ref (ad (30 + i)))]) hx hb dX6_measure_85 hl (k := 2) rfl ((nI_succ j).symm) (by decide) rfl (fun ls hl => ?_)
          have hml : c.maxLocals = ls.size := hml9.trans hl.1.symm
          refine lv_goto (tgt := 16) hx hb dX6_measure_88 (by decide) ?_
          exact ih9 (j + 1) _ _ (by omega) hltj (by rw [← pSgs_s]; unfold fMs; rw [if_neg c_43]; rw [← ecd]; exact hw.setSg hA hL hi hj8 hp1 oq1) hS ls (lv_sub hl [0, 3, 4, 5] rfl)
  exact lp16_1 (ns + 1) 0 _ _ (Nat.le_refl _) (Nat.zero_le _) (by rw [pSgs_0]; exact hw) hS ls (lv_sub hl [0, 1, 2, 3] rfl)
set_option maxHeartbeats 4000000 in
set_option maxRecDepth 100000 in
theorem c_X6_gatherSupposed (l : Launch) (D : va_G) (cy : Nat → ClassId) (ad : Nat → Nat) (ns nt nr : Nat) (hL : LB ns nt nr) (M : Nat → Nat → Int32) (V : SX) (hA : AI ad ns nt nr) (i : Nat) (hi : i < nr) (lo : Int32) : Met l yX6_gatherSupposed [.code yX6_gatherSupposed cX6_gatherSupposed 4 none] ({ frames := 4, cells := 0, slots := 0, locals := 92 } : Room) (PC D cy [.ref (ad 0), .ref (ad (30 + i)), .int lo] (fun H => CW D cy ad ns nt nr M V H)) (UQv (CA ad ns nt nr) (fun H => CW D cy ad ns nt nr M (upd V.1 5 (nI (pGS M nr i lo V.2.2.2 ns).1), V.2.1, V.2.2.1, (pGS M nr i lo V.2.2.2 ns).2) H)) 0 0 (CA ad ns nt nr) := by
  refine k_body (by decide +kernel) (Nat.le_of_ble_eq_true rfl) ?_
  intro p e s m below meth c ls hx hb hml hown hr hlk hmn hl hG hI
  have hml9 : c.maxLocals = 4 := hml.trans hl.1
  have hl : lv_has ls 4 [(0, .ref (ad 0)), (1, .ref (ad (30 + i))), (2, .int lo)] := hl
  have hS : va_S (CA ad ns nt nr) s.heap s.heap [] := va_S.rf
  have hw := hI
  refine lv_aload_n hx hb dX6_gatherSupposed_0 rfl (lv_at hl 0 rfl) ?_
  refine k_get (ci := 6) (C := RX6) (T := TX6) (N := 8) (v := .ref (ad 1)) hx hb hown hG rfl kin_X6 hw.o 3 (by decide) wF_X6_30 rfl dX6_gatherSupposed_1 ?_
  refine kc_uv (kr_VN (As := []) (rest := []) hx hb hml hown hG (c_X2_clear l D cy (ad 1) (fun i => ad (2 + i)) hA.sv V.1 V.2.1 V.2.2.1 V.2.2.2) cf_X2_clear wMN_X6_329 hw.sv.1 rfl hw.sv ⟨rfl, rfl, by decide, by decide⟩ rfl rfl (Nat.le_of_ble_eq_true rfl) ⟨Nat.le_of_ble_eq_true rfl, Nat.le_of_ble_eq_true rfl⟩ dX6_gatherSupposed_4) hS CA.sv (fun H1 locs hp1 z1 oq1 hS => ?_)
  have hw : CW D cy ad ns nt nr M (upd V.1 5 (nI 0), V.2.1, V.2.2.1, V.2.2.2) H1 := hw.setSv (V' := (upd V.1 5 (nI 0), V.2.1, V.2.2.1, V.2.2.2)) hA hp1 oq1
  refine lv_iconst (v := 0) hx hb dX6_gatherSupposed_7 (by decide) ?_
  refine lv_istore_n (lv' := [(3, .int 0), (0, .ref (ad 0)), (1, .ref (ad (30 + i))), (2, .int lo)]) hx hb dX6_gatherSupposed_8 rfl hl (by decide) rfl (fun ls hl => ?_)
  have hml : c.maxLocals = ls.size := hml9.trans hl.1.symm
  have lp9_1 : ∀ (n9 : Nat) (j : Nat) (H : Heap) (locs : List Loc), ns + 1 - j ≤ n9 → j ≤ ns → CW D cy ad ns nt nr M (upd V.1 5 (nI (pGS M nr i lo V.2.2.2 j).1), V.2.1, V.2.2.1, (pGS M nr i lo V.2.2.2 j).2) H → va_S (CA ad ns nt nr) s.heap H locs →  ∀ ls : Array Slot, lv_has ls 4 [(3, .int (nI j)), (0, .ref (ad 0)), (1, .ref (ad (30 + i))), (2, .int lo)] → W p l e ({ frames := 4, cells := 0, slots := 0, locals := 92 } : Room) s m ([.ref (ad 0), .ref (ad (30 + i)), .int lo] : List Value).toArray below meth c H locs 0 0 (MQ below (UQv (CA ad ns nt nr) (fun H => CW D cy ad ns nt nr M (upd V.1 5 (nI (pGS M nr i lo V.2.2.2 ns).1), V.2.1, V.2.2.1, (pGS M nr i lo V.2.2.2 ns).2) H)) ([.ref (ad 0), .ref (ad (30 + i)), .int lo] : List Value).toArray s 0 0 (CA ad ns nt nr)) (F0 m 9 ls []) := by
    intro n9
    induction n9 with
    | zero =>
      intro j H locs h9
      intro hj; exact absurd h9 (by omega)
    | succ n9 ih9 =>
      intro j H locs hn9 hj hw hS ls hl
      have hml : c.maxLocals = ls.size := hml9.trans hl.1.symm
      refine lv_iload_n hx hb dX6_gatherSupposed_9 rfl (lv_at hl 0 rfl) ?_
      refine lv_aload_n hx hb dX6_gatherSupposed_10 rfl (lv_at hl 1 rfl) ?_
      refine k_get (ci := 6) (C := RX6) (T := TX6) (N := 8) (v := .int (nI ns)) hx hb hown hG rfl kin_X6 hw.o 4 (by decide) wF_X6_47 rfl dX6_gatherSupposed_11 ?_
      refine lv_icmp_ge (tgt := 82) hx hb dX6_gatherSupposed_14 (by decide) (fun c_14 => ?_) (fun c_14 => ?_)
      · have enj : j = ns := Nat.le_antisymm hj ((nI_leI (by have := hL.1; have := hL.2.1; have := hL.2.2; omega) (by have := hL.1; have := hL.2.1; have := hL.2.2; omega)).mp c_14)
        exact ke_uv hx hb hr hlk hS dX6_gatherSupposed_82 (by subst enj; exact hw)
      · have hltj : j < ns := by
          rcases Nat.lt_or_ge j ns with q | q
          · exact q
          · exact absurd (nI_le q (by have := hL.1; have := hL.2.1; have := hL.2.2; omega)) c_14
        refine lv_iload_n hx hb dX6_gatherSupposed_17 rfl (lv_at hl 0 rfl) ?_
        refine lv_iload_n hx hb dX6_gatherSupposed_18 rfl (lv_at hl 3 rfl) ?_
        refine lv_icmp_eq (tgt := 76) hx hb dX6_gatherSupposed_19 (by decide) (fun c_19 => ?_) (fun c_19 => ?_)
        · refine lv_iinc (v := (nI (j + 1))) (lv' := [(3, .int (nI (j + 1))), (0, .ref (ad 0)), (1, .ref (ad (30 + i))), (2, .int lo)]) hx hb dX6_gatherSupposed_76 hl (k := 0) rfl ((nI_succ j).symm) (by decide) rfl (fun ls hl => ?_)
          have hml : c.maxLocals = ls.size := hml9.trans hl.1.symm
          refine lv_goto (tgt := 9) hx hb dX6_gatherSupposed_79 (by decide) ?_
          exact ih9 (j + 1) _ _ (by omega) hltj (by rw [pGS_s, if_pos c_19]; exact hw) hS ls (lv_sub hl [0, 1, 2, 3] rfl)
        · refine lv_aload_n hx hb dX6_gatherSupposed_22 rfl (lv_at hl 2 rfl) ?_
          refine lv_aload_n hx hb dX6_gatherSupposed_23 rfl (lv_at hl 1 rfl) ?_
          refine k_get (ci := 6) (C := RX6) (T := TX6) (N := 8) (v := .ref (ad 7)) hx hb hown hG rfl kin_X6 hw.o 0 (by decide) wF_X6_11 rfl dX6_gatherSupposed_24 ?_
          refine lv_iload_n hx hb dX6_gatherSupposed_27 rfl (lv_at hl 0 rfl) ?_
          refine k_aldq (v := (ad (10 + j))) hx hb hG 1 rfl hw.a7 (by exact vp_in_nI (Nat.lt_of_lt_of_le hltj hL.1) (by decide)) (by exact aSt hltj hL) dX6_gatherSupposed_28 ?_
          refine lv_iconst (v := 0) hx hb dX6_gatherSupposed_29 (by decide) ?_
          refine kc_i (kr_VN (As := [.ref (ad (10 + j)), .int 0]) (rest := []) hx hb hml hown hG (c_X0_canSee l D cy (ad (30 + i)) (ad (10 + j)) (ad (40 + i)) (ad (50 + i)) (M (30 + i)) (M (10 + j)) 0) cf_X0_canSee wMN_X6_306 (hw.rc hL hi) rfl ⟨(hw.rc hL hi), (hw.st hL hltj)⟩ ⟨rfl, rfl, by decide, by decide⟩ rfl rfl (Nat.le_of_ble_eq_true rfl) ⟨Nat.le_of_ble_eq_true rfl, Nat.le_of_ble_eq_true rfl⟩ dX6_gatherSupposed_30) ?_
          refine lv_if_eq (tgt := 76) hx hb dX6_gatherSupposed_33 (by decide) (fun c_33 => ?_) (fun c_33 => ?_)
          · refine lv_iinc (v := (nI (j + 1))) (lv' := [(3, .int (nI (j + 1))), (0, .ref (ad 0)), (1, .ref (ad (30 + i))), (2, .int lo)]) hx hb dX6_gatherSupposed_76 hl (k := 0) rfl ((nI_succ j).symm) (by decide) rfl (fun ls hl => ?_)
            have hml : c.maxLocals = ls.size := hml9.trans hl.1.symm
            refine lv_goto (tgt := 9) hx hb dX6_gatherSupposed_79 (by decide) ?_
            exact ih9 (j + 1) _ _ (by omega) hltj (by rw [pGS_s, if_neg c_19, if_pos c_33]; exact hw) hS ls (lv_sub hl [0, 1, 2, 3] rfl)
          · refine lv_aload_n hx hb dX6_gatherSupposed_36 rfl (lv_at hl 1 rfl) ?_
            refine k_get (ci := 6) (C := RX6) (T := TX6) (N := 8) (v := .ref (ad 7)) hx hb hown hG rfl kin_X6 hw.o 0 (by decide) wF_X6_11 rfl dX6_gatherSupposed_37 ?_
            refine lv_iload_n hx hb dX6_gatherSupposed_40 rfl (lv_at hl 0 rfl) ?_
            refine k_aldq (v := (ad (10 + j))) hx hb hG 1 rfl hw.a7 (by exact vp_in_nI (Nat.lt_of_lt_of_le hltj hL.1) (by decide)) (by exact aSt hltj hL) dX6_gatherSupposed_41 ?_
            refine lv_aload_n hx hb dX6_gatherSupposed_42 rfl (lv_at hl 1 rfl) ?_
            refine k_get (ci := 6) (C := RX6) (T := TX6) (N := 8) (v := .int (M 0 0)) hx hb hown hG rfl kin_X6 hw.o 7 (by decide) wF_X6_114 rfl dX6_gatherSupposed_43 ?_
            refine kc_i (kr_VN (As := [.int (M 0 0)]) (rest := []) hx hb hml hown hG (c_X3_messageHolds l D cy (ad (10 + j)) (M (10 + j)) (M 0 0)) cf_X3_messageHolds wMN_X6_335 (hw.st hL hltj) rfl (hw.st hL hltj) ⟨rfl, rfl, by decide, by decide⟩ rfl rfl (Nat.le_of_ble_eq_true rfl) ⟨Nat.le_of_ble_eq_true rfl, Nat.le_of_ble_eq_true rfl⟩ dX6_gatherSupposed_46) ?_
            refine lv_if_eq (tgt := 76) hx hb dX6_gatherSupposed_49 (by decide) (fun c_49 => ?_) (fun c_49 => ?_)
            · refine lv_iinc (v := (nI (j + 1))) (lv' := [(3, .int (nI (j + 1))), (0, .ref (ad 0)), (1, .ref (ad (30 + i))), (2, .int lo)]) hx hb dX6_gatherSupposed_76 hl (k := 0) rfl ((nI_succ j).symm) (by decide) rfl (fun ls hl => ?_)
              have hml : c.maxLocals = ls.size := hml9.trans hl.1.symm
              refine lv_goto (tgt := 9) hx hb dX6_gatherSupposed_79 (by decide) ?_
              exact ih9 (j + 1) _ _ (by omega) hltj (by rw [pGS_s, if_neg c_19, if_neg c_33, if_pos c_49]; exact hw) hS ls (lv_sub hl [0, 1, 2, 3] rfl)
            · refine lv_aload_n hx hb dX6_gatherSupposed_52 rfl (lv_at hl 1 rfl) ?_
              refine lv_aload_n hx hb dX6_gatherSupposed_53 rfl (lv_at hl 1 rfl) ?_
              refine k_get (ci := 6) (C := RX6) (T := TX6) (N := 8) (v := .ref (ad 7)) hx hb hown hG rfl kin_X6 hw.o 0 (by decide) wF_X6_11 rfl dX6_gatherSupposed_54 ?_
              refine lv_iload_n hx hb dX6_gatherSupposed_57 rfl (lv_at hl 0 rfl) ?_
              refine k_aldq (v := (ad (10 + j))) hx hb hG 1 rfl hw.a7 (by exact vp_in_nI (Nat.lt_of_lt_of_le hltj hL.1) (by decide)) (by exact aSt hltj hL) dX6_gatherSupposed_58 ?_
              refine lv_aload_n hx hb dX6_gatherSupposed_59 rfl (lv_at hl 1 rfl) ?_
              refine lv_aload_n hx hb dX6_gatherSupposed_60 rfl (lv_at hl 2 rfl) ?_
              refine lv_iload_n hx hb dX6_gatherSupposed_61 rfl (lv_at hl 0 rfl) ?_
              refine kc_i (kr_V (As := [.ref (ad (30 + i)), .int (nI j)]) (rest := [.ref (ad (10 + j)), .ref (ad 0)]) hx hb hml hown hG (c_X6_codeOf l D cy ad ns nt nr hL M (upd V.1 5 (nI (pGS M nr i lo V.2.2.2 j).1), V.2.1, V.2.2.1, (pGS M nr i lo V.2.2.2 j).2) i j hi hltj) cf_X6_codeOf wM_X6_313 hw.o rfl hw ⟨rfl, rfl, by decide, by decide⟩ rfl rfl (Nat.le_of_ble_eq_true rfl) ⟨Nat.le_of_ble_eq_true rfl, Nat.le_of_ble_eq_true rfl⟩ dX6_gatherSupposed_62) ?_
              refine lv_aload_n hx hb dX6_gatherSupposed_65 rfl (lv_at hl 1 rfl) ?_
              refine lv_aload_n hx hb dX6_gatherSupposed_66 rfl (lv_at hl 2 rfl) ?_
              refine lv_iload_n hx hb dX6_gatherSupposed_67 rfl (lv_at hl 0 rfl) ?_
              refine kc_i (kr_V (As := [.ref (ad (30 + i)), .int (nI j)]) (rest := [.int (pCode (M 0 0) (M (30 + i)) (M (10 + j)) j), .ref (ad (10 + j)), .ref (ad 0)]) hx hb hml hown hG (c_X6_correctionOf l D cy ad ns nt nr hL M (upd V.1 5 (nI (pGS M nr i lo V.2.2.2 j).1), V.2.1, V.2.2.1, (pGS M nr i lo V.2.2.2 j).2) i j hi hltj) cf_X6_correctionOf wM_X6_341 hw.o rfl hw ⟨rfl, rfl, by decide, by decide⟩ rfl rfl (Nat.le_of_ble_eq_true rfl) ⟨Nat.le_of_ble_eq_true rfl, Nat.le_of_ble_eq_true rfl⟩ dX6_gatherSupposed_68) ?_
              refine lv_isub hx hb dX6_gatherSupposed_71 ?_
              refine lv_iconst (v := 0) hx hb dX6_gatherSupposed_72 (by decide) ?_
              refine kc_uv (kr_V (As := [.ref (ad (10 + j)), .int ((pCode (M 0 0) (M (30 + i)) (M (10 + j)) j) - (pCorr M nr i j)), .int 0]) (rest := []) hx hb hml hown hG (c_X6_use l D cy ad ns nt nr hL M V hA V.1 V.2.1 V.2.2.1 (pGS M nr i lo V.2.2.2 j).2 (pGS M nr i lo V.2.2.2 j).1 (Nat.lt_of_le_of_lt (pGS_le M nr i lo V.2.2.2 j) (Nat.lt_of_lt_of_le hltj hL.1)) j hltj ((pCode (M 0 0) (M (30 + i)) (M (10 + j)) j) - (pCorr M nr i j)) 0) cf_X6_use wM_X6_354 hw.o rfl hw ⟨rfl, rfl, by decide, by decide⟩ rfl rfl (Nat.le_of_ble_eq_true rfl) ⟨Nat.le_of_ble_eq_true rfl, Nat.le_of_ble_eq_true rfl⟩ dX6_gatherSupposed_73) hS (fun _ h => h) (fun H1 locs hp1 z1 oq1 hS => ?_)
              have hw : CW D cy ad ns nt nr M (upd V.1 5 (nI ((pGS M nr i lo V.2.2.2 j).1 + 1)), V.2.1, V.2.2.1, (pPutS (pGS M nr i lo V.2.2.2 j).2 (pGS M nr i lo V.2.2.2 j).1 (M (10 + j)) (M 0 0) ((pCode (M 0 0) (M (30 + i)) (M (10 + j)) j) - (pCorr M nr i j)) 0)) H1 := hp1
              refine lv_iinc (v := (nI (j + 1))) (lv' := [(3, .int (nI (j + 1))), (0, .ref (ad 0)), (1, .ref (ad (30 + i))), (2, .int lo)]) hx hb dX6_gatherSupposed_76 hl (k := 0) rfl ((nI_succ j).symm) (by decide) rfl (fun ls hl => ?_)
              have hml : c.maxLocals = ls.size := hml9.trans hl.1.symm
              refine lv_goto (tgt := 9) hx hb dX6_gatherSupposed_79 (by decide) ?_
              exact ih9 (j + 1) _ _ (by omega) hltj (by rw [pGS_s, if_neg c_19, if_neg c_33, if_neg c_49]; exact hw) hS ls (lv_sub hl [0, 1, 2, 3] rfl)
  exact lp9_1 (ns + 1) 0 _ _ (Nat.le_refl _) (Nat.zero_le _) (by rw [pGS_0]; exact hw) hS ls (lv_sub hl [0, 1, 2, 3] rfl)
