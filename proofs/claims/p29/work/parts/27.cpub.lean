set_option maxHeartbeats 4000000 in
set_option maxRecDepth 100000 in
theorem c_X6_push (l : Launch) (hlf : l.stackTraces = false) (D : va_G) (cy : Nat → ClassId) (ad : Nat → Nat) (ns nt nr : Nat) (hL : LB ns nt nr) (M : Nat → Nat → Int32) (V : SX) (hA : AI ad ns nt nr) (x b : Int32) : vx_Met l yX6_push [.code yX6_push cX6_push 4 (some .int)] ({ frames := 6, cells := 1, slots := 6, locals := 82 } : Room) (PX D cy [.ref (ad 0), .int x, .int b] (fun H => CW D cy ad ns nt nr M V H)) (UQi (CA ad ns nt nr) (fun r H => kPush ns x b = 0 ∧ ∃ i, i < ns ∧ x = nI i ∧ r = pFMod (M (10 + i) 2 + b) 48 ∧ CW D cy ad ns nt nr (mset M (10 + i) (upd (M (10 + i)) 2 (pFMod (M (10 + i) 2 + b) 48))) V H)) (XQ (errP (kPush ns x b) EIB EIA)) 1 6 (CA ad ns nt nr) := by
  refine k_bodyX (by decide +kernel) (Nat.le_of_ble_eq_true rfl) ?_
  intro p e s m below meth c ls hx hb hml hown hr hlk hmn hl hG hI hnx hX hZ
  have hml9 : c.maxLocals = 4 := hml.trans hl.1
  have hl : lv_has ls 4 [(0, .ref (ad 0)), (1, .int x), (2, .int b)] := hl
  have hS : va_S (CA ad ns nt nr) s.heap s.heap [] := va_S.rf
  have hw := hI
  refine lv_aload_n hx hb dX6_push_0 rfl (lv_at hl 0 rfl) ?_
  refine lv_iload_n hx hb dX6_push_1 rfl (lv_at hl 1 rfl) ?_
  refine kc_i (kr_V (As := [.int x]) (rest := []) hx hb hml hown hG (c_X6_isNoStar l D cy ad ns nt nr hL M V x) cf_X6_isNoStar wM_X6_59 hw.o rfl hw ⟨rfl, rfl, by decide, by decide⟩ rfl rfl (Nat.le_of_ble_eq_true rfl) ⟨Nat.le_of_ble_eq_true rfl, Nat.le_of_ble_eq_true rfl⟩ dX6_push_2) ?_
  refine lv_if_eq (tgt := 18) hx hb dX6_push_5 (by decide) (fun c_5 => ?_) (fun c_5 => ?_)
  · obtain ⟨i, hi, ei⟩ := pOut_f hL.1 c_5
    refine lv_iload_n hx hb dX6_push_18 rfl (lv_at hl 2 rfl) ?_
    refine lv_bipush (v := (-5)) hx hb dX6_push_19 (by decide) ?_
    refine lv_iconst (v := 5) hx hb dX6_push_21 (by decide) ?_
    refine kc_i (kr_S (As := [.int b, .int (-5), .int 5]) (rest := []) hx hb hml hown hG (c_X6_isOutside l D cy b (-5) 5) cf_X6_isOutside wM_X6_34 trivial ⟨rfl, rfl, by decide, by decide⟩ rfl rfl (Nat.le_of_ble_eq_true rfl) ⟨Nat.le_of_ble_eq_true rfl, Nat.le_of_ble_eq_true rfl⟩ dX6_push_22) ?_
    refine lv_if_eq (tgt := 38) hx hb dX6_push_25 (by decide) (fun c_25 => ?_) (fun c_25 => ?_)
    · refine lv_aload_n hx hb dX6_push_38 rfl (lv_at hl 0 rfl) ?_
      refine k_get (ci := 6) (C := RX6) (T := TX6) (N := 8) (v := .ref (ad 7)) hx hb hown hG rfl kin_X6 hw.o 0 (by decide) wF_X6_11 rfl dX6_push_39 ?_
      refine lv_iload_n hx hb dX6_push_42 rfl (lv_at hl 1 rfl) ?_
      refine k_aldq (v := (ad (10 + i))) hx hb hG 1 rfl hw.a7 (by rw [ei]; exact vp_in_nI (Nat.lt_of_lt_of_le hi hL.1) (by decide)) (by rw [ei]; exact aSt hi hL) dX6_push_43 ?_
      refine lv_astore_n (lv' := [(3, .ref (ad (10 + i))), (0, .ref (ad 0)), (1, .int x), (2, .int b)]) hx hb dX6_push_44 rfl hl (by decide) rfl (fun ls hl => ?_)
      have hml : c.maxLocals = ls.size := hml9.trans hl.1.symm
      refine lv_aload_n hx hb dX6_push_45 rfl (lv_at hl 0 rfl) ?_
      refine lv_aload_n hx hb dX6_push_46 rfl (lv_at hl 0 rfl) ?_
      refine k_getN (ci := 3) (C := RX3) (T := TX3) (N := 11) (v := .int ((M (10 + i)) 2)) hx hb hown hG rfl kin_X3 (hw.st hL hi) 2 (by decide) wFN_X6_70 rfl dX6_push_47 ?_
      refine lv_iload_n hx hb dX6_push_50 rfl (lv_at hl 3 rfl) ?_
      refine lv_iadd hx hb dX6_push_51 ?_
      refine lv_bipush (v := 48) hx hb dX6_push_52 (by decide) ?_
      refine kc_i (kr_S (As := [.int ((M (10 + i)) 2 + b), .int 48]) (rest := [.ref (ad (10 + i))]) hx hb hml hown hG (c_J9_floorMod_7cf53 l D cy ((M (10 + i)) 2 + b) 48 (by decide)) cf_J9_floorMod_7cf53 wM_X6_73 trivial ⟨rfl, rfl, by decide, by decide⟩ rfl rfl (Nat.le_of_ble_eq_true rfl) ⟨Nat.le_of_ble_eq_true rfl, Nat.le_of_ble_eq_true rfl⟩ dX6_push_54) ?_
      refine k_putN (ci := 3) (C := RX3) (T := TX3) (N := 11) (v := .int (pFMod ((M (10 + i)) 2 + b) 48)) hx hb hown hG rfl kin_X3 tyX3 tyX3_ok nmX3 (hw.st hL hi) hS (CA.of (LV.st hi)) 2 (by decide) wFN_X6_70 rfl rfl rfl (Nat.le_of_ble_eq_true rfl) dX6_push_57 (fun H1 locs hP1 z1 oq1 hS => ?_)
      have hq10i : va_P D vwCl [((ad (10 + i)), .inr (3, stF (upd (M (10 + i)) 2 (pFMod ((M (10 + i)) 2 + b) 48))))] H1 := hP1
      have hw : CW D cy ad ns nt nr (mset M (10 + i) (upd (M (10 + i)) 2 (pFMod ((M (10 + i)) 2 + b) 48))) V H1 := hw.setSt hA hL hi hq10i (fun q _ h => oq1 q h)
      refine lv_aload_n hx hb dX6_push_60 rfl (lv_at hl 0 rfl) ?_
      refine k_getN (ci := 3) (C := RX3) (T := TX3) (N := 11) (v := .int (pFMod ((M (10 + i)) 2 + b) 48)) hx hb hown hG rfl kin_X3 hq10i 2 (by decide) wFN_X6_70 rfl dX6_push_61 ?_
      exact kx (Nat.zero_le _) (Nat.zero_le _) (ke_ui hx hb hr hlk hS dX6_push_64 ⟨by unfold kPush; rw [if_pos c_5, if_pos c_25], i, hi, ei, rfl, hw⟩)
    · exact k_throw ex_ia wStr_X6_68 hx hb hml hown hlk hlf hG hnx hX hZ dX6_push_28 dX6_push_31 dX6_push_32 dX6_push_34 dX6_push_37 ⟨by decide, by decide, by decide, by decide⟩ ⟨by decide, by decide⟩ (Or.inr ⟨by unfold kPush; rw [if_pos c_5, if_neg c_25], rfl⟩)
  · exact k_throw ex_ib wStr_X6_65 hx hb hml hown hlk hlf hG hnx hX hZ dX6_push_8 dX6_push_11 dX6_push_12 dX6_push_14 dX6_push_17 ⟨by decide, by decide, by decide, by decide⟩ ⟨by decide, by decide⟩ (Or.inl ⟨by unfold kPush; rw [if_neg c_5], rfl⟩)
set_option maxHeartbeats 4000000 in
set_option maxRecDepth 100000 in
theorem c_X6_jump (l : Launch) (hlf : l.stackTraces = false) (D : va_G) (cy : Nat → ClassId) (ad : Nat → Nat) (ns nt nr : Nat) (hL : LB ns nt nr) (M : Nat → Nat → Int32) (V : SX) (hA : AI ad ns nt nr) (x o d : Int32) : vx_Met l yX6_jump [.code yX6_jump cX6_jump 5 (some .int)] ({ frames := 6, cells := 1, slots := 6, locals := 82 } : Room) (PX D cy [.ref (ad 0), .int x, .int o, .int d] (fun H => CW D cy ad ns nt nr M V H)) (UQi (CA ad ns nt nr) (fun r H => kJump ns x o d = 0 ∧ ∃ i, i < ns ∧ x = nI i ∧ r = rClock (M (10 + i)) o 3 ∧ CW D cy ad ns nt nr (mset M (10 + i) (upd (rClock (M (10 + i)) o) 4 d)) V H)) (XQ (errP (kJump ns x o d) EIB EIA)) 1 6 (CA ad ns nt nr) := by
  refine k_bodyX (by decide +kernel) (Nat.le_of_ble_eq_true rfl) ?_
  intro p e s m below meth c ls hx hb hml hown hr hlk hmn hl hG hI hnx hX hZ
  have hml9 : c.maxLocals = 5 := hml.trans hl.1
  have hl : lv_has ls 5 [(0, .ref (ad 0)), (1, .int x), (2, .int o), (3, .int d)] := hl
  have hS : va_S (CA ad ns nt nr) s.heap s.heap [] := va_S.rf
  have hw := hI
  refine lv_aload_n hx hb dX6_jump_0 rfl (lv_at hl 0 rfl) ?_
  refine lv_iload_n hx hb dX6_jump_1 rfl (lv_at hl 1 rfl) ?_
  refine kc_i (kr_V (As := [.int x]) (rest := []) hx hb hml hown hG (c_X6_isNoStar l D cy ad ns nt nr hL M V x) cf_X6_isNoStar wM_X6_59 hw.o rfl hw ⟨rfl, rfl, by decide, by decide⟩ rfl rfl (Nat.le_of_ble_eq_true rfl) ⟨Nat.le_of_ble_eq_true rfl, Nat.le_of_ble_eq_true rfl⟩ dX6_jump_2) ?_
  refine lv_if_eq (tgt := 18) hx hb dX6_jump_5 (by decide) (fun c_5 => ?_) (fun c_5 => ?_)
  · obtain ⟨i, hi, ei⟩ := pOut_f hL.1 c_5
    refine lv_iload_n hx hb dX6_jump_18 rfl (lv_at hl 2 rfl) ?_
    refine lv_bipush (v := (-99)) hx hb dX6_jump_19 (by decide) ?_
    refine lv_bipush (v := 99) hx hb dX6_jump_21 (by decide) ?_
    refine kc_i (kr_S (As := [.int o, .int (-99), .int 99]) (rest := []) hx hb hml hown hG (c_X6_isOutside l D cy o (-99) 99) cf_X6_isOutside wM_X6_34 trivial ⟨rfl, rfl, by decide, by decide⟩ rfl rfl (Nat.le_of_ble_eq_true rfl) ⟨Nat.le_of_ble_eq_true rfl, Nat.le_of_ble_eq_true rfl⟩ dX6_jump_23) ?_
    refine lv_if_ne (tgt := 39) hx hb dX6_jump_26 (by decide) (fun c_26 => ?_) (fun c_26 => ?_)
    · exact k_throw ex_ia wStr_X6_45 hx hb hml hown hlk hlf hG hnx hX hZ dX6_jump_39 dX6_jump_42 dX6_jump_43 dX6_jump_45 dX6_jump_48 ⟨by decide, by decide, by decide, by decide⟩ ⟨by decide, by decide⟩ (Or.inr ⟨by unfold kJump; rw [if_pos c_5, if_neg c_26], rfl⟩)
    · refine lv_iload_n hx hb dX6_jump_29 rfl (lv_at hl 3 rfl) ?_
      refine lv_bipush (v := (-3)) hx hb dX6_jump_30 (by decide) ?_
      refine lv_iconst (v := 3) hx hb dX6_jump_32 (by decide) ?_
      refine kc_i (kr_S (As := [.int d, .int (-3), .int 3]) (rest := []) hx hb hml hown hG (c_X6_isOutside l D cy d (-3) 3) cf_X6_isOutside wM_X6_34 trivial ⟨rfl, rfl, by decide, by decide⟩ rfl rfl (Nat.le_of_ble_eq_true rfl) ⟨Nat.le_of_ble_eq_true rfl, Nat.le_of_ble_eq_true rfl⟩ dX6_jump_33) ?_
      refine lv_if_eq (tgt := 49) hx hb dX6_jump_36 (by decide) (fun c_36 => ?_) (fun c_36 => ?_)
      · refine lv_aload_n hx hb dX6_jump_49 rfl (lv_at hl 0 rfl) ?_
        refine k_get (ci := 6) (C := RX6) (T := TX6) (N := 8) (v := .ref (ad 7)) hx hb hown hG rfl kin_X6 hw.o 0 (by decide) wF_X6_11 rfl dX6_jump_50 ?_
        refine lv_iload_n hx hb dX6_jump_53 rfl (lv_at hl 1 rfl) ?_
        refine k_aldq (v := (ad (10 + i))) hx hb hG 1 rfl hw.a7 (by rw [ei]; exact vp_in_nI (Nat.lt_of_lt_of_le hi hL.1) (by decide)) (by rw [ei]; exact aSt hi hL) dX6_jump_54 ?_
        refine lv_astore (lv' := [(4, .ref (ad (10 + i))), (0, .ref (ad 0)), (1, .int x), (2, .int o), (3, .int d)]) hx hb dX6_jump_55 hl (by decide) rfl (fun ls hl => ?_)
        have hml : c.maxLocals = ls.size := hml9.trans hl.1.symm
        refine lv_aload hx hb dX6_jump_57 (lv_at hl 0 rfl) ?_
        refine lv_iload_n hx hb dX6_jump_59 rfl (lv_at hl 3 rfl) ?_
        refine kc_uv (kr_VN (As := [.int o]) (rest := []) hx hb hml hown hG (c_X3_moveClock l D cy (ad (10 + i)) (M (10 + i)) o) cf_X3_moveClock wMN_X6_79 (hw.st hL hi) rfl (hw.st hL hi) ⟨rfl, rfl, by decide, by decide⟩ rfl rfl (Nat.le_of_ble_eq_true rfl) ⟨Nat.le_of_ble_eq_true rfl, Nat.le_of_ble_eq_true rfl⟩ dX6_jump_60) hS (fun q h => h ▸ CA.of (LV.st hi)) (fun H1 locs hp1 z1 oq1 hS => ?_)
        have hq10i : va_P D vwCl [((ad (10 + i)), .inr (3, stF (rClock (M (10 + i)) o)))] H1 := hp1
        have hw : CW D cy ad ns nt nr (mset M (10 + i) (rClock (M (10 + i)) o)) V H1 := hw.setSt hA hL hi hq10i oq1
        refine lv_aload hx hb dX6_jump_63 (lv_at hl 0 rfl) ?_
        refine lv_iload_n hx hb dX6_jump_65 rfl (lv_at hl 4 rfl) ?_
        refine k_putN (ci := 3) (C := RX3) (T := TX3) (N := 11) (v := .int d) hx hb hown hG rfl kin_X3 tyX3 tyX3_ok nmX3 hq10i hS (CA.of (LV.st hi)) 4 (by decide) wFN_X6_83 rfl rfl rfl (Nat.le_of_ble_eq_true rfl) dX6_jump_66 (fun H1 locs hP1 z1 oq1 hS => ?_)
        have hq10i : va_P D vwCl [((ad (10 + i)), .inr (3, stF (upd (rClock (M (10 + i)) o) 4 d)))] H1 := hP1
        have hw : CW D cy ad ns nt nr (mset M (10 + i) (upd (rClock (M (10 + i)) o) 4 d)) V H1 := by rw [← mset_mset M (10 + i) (rClock (M (10 + i)) o) (upd (rClock (M (10 + i)) o) 4 d)]; exact hw.setSt hA hL hi hq10i (fun q _ h => oq1 q h)
        refine lv_aload hx hb dX6_jump_69 (lv_at hl 0 rfl) ?_
        refine k_getN (ci := 3) (C := RX3) (T := TX3) (N := 11) (v := .int ((rClock (M (10 + i)) o) 3)) hx hb hown hG rfl kin_X3 hq10i 3 (by decide) wFN_X6_86 rfl dX6_jump_71 ?_
        exact kx (Nat.zero_le _) (Nat.zero_le _) (ke_ui hx hb hr hlk hS dX6_jump_74 ⟨by unfold kJump; rw [if_pos c_5, if_pos c_26, if_pos c_36], i, hi, ei, rfl, hw⟩)
      · exact k_throw ex_ia wStr_X6_45 hx hb hml hown hlk hlf hG hnx hX hZ dX6_jump_39 dX6_jump_42 dX6_jump_43 dX6_jump_45 dX6_jump_48 ⟨by decide, by decide, by decide, by decide⟩ ⟨by decide, by decide⟩ (Or.inr ⟨by unfold kJump; rw [if_pos c_5, if_pos c_26, if_neg c_36], rfl⟩)
  · exact k_throw ex_ib wStr_X6_65 hx hb hml hown hlk hlf hG hnx hX hZ dX6_jump_8 dX6_jump_11 dX6_jump_12 dX6_jump_14 dX6_jump_17 ⟨by decide, by decide, by decide, by decide⟩ ⟨by decide, by decide⟩ (Or.inl ⟨by unfold kJump; rw [if_neg c_5], rfl⟩)
set_option maxHeartbeats 4000000 in
set_option maxRecDepth 100000 in
theorem c_X6_health (l : Launch) (hlf : l.stackTraces = false) (D : va_G) (cy : Nat → ClassId) (ad : Nat → Nat) (ns nt nr : Nat) (hL : LB ns nt nr) (M : Nat → Nat → Int32) (V : SX) (hA : AI ad ns nt nr) (x : Int32) (b : Bool) (h01 : ∀ i, i < ns → ∃ b, M (10 + i) 5 = bI b) : vx_Met l yX6_health [.code yX6_health cX6_health 4 (some .boolean)] ({ frames := 6, cells := 1, slots := 6, locals := 82 } : Room) (PX D cy [.ref (ad 0), .int x, .int (bI b)] (fun H => CW D cy ad ns nt nr M V H)) (UQi (CA ad ns nt nr) (fun r H => kOne ns x = 0 ∧ ∃ i, i < ns ∧ x = nI i ∧ r = M (10 + i) 5 ∧ CW D cy ad ns nt nr (mset M (10 + i) (upd (M (10 + i)) 5 (bI b))) V H)) (XQ (errP (kOne ns x) EIB EIB)) 1 6 (CA ad ns nt nr) := by
  refine k_bodyX (by decide +kernel) (Nat.le_of_ble_eq_true rfl) ?_
  intro p e s m below meth c ls hx hb hml hown hr hlk hmn hl hG hI hnx hX hZ
  have hml9 : c.maxLocals = 4 := hml.trans hl.1
  have hl : lv_has ls 4 [(0, .ref (ad 0)), (1, .int x), (2, .int (bI b))] := hl
  have hS : va_S (CA ad ns nt nr) s.heap s.heap [] := va_S.rf
  have hw := hI
  refine lv_aload_n hx hb dX6_health_0 rfl (lv_at hl 0 rfl) ?_
  refine lv_iload_n hx hb dX6_health_1 rfl (lv_at hl 1 rfl) ?_
  refine kc_i (kr_V (As := [.int x]) (rest := []) hx hb hml hown hG (c_X6_isNoStar l D cy ad ns nt nr hL M V x) cf_X6_isNoStar wM_X6_59 hw.o rfl hw ⟨rfl, rfl, by decide, by decide⟩ rfl rfl (Nat.le_of_ble_eq_true rfl) ⟨Nat.le_of_ble_eq_true rfl, Nat.le_of_ble_eq_true rfl⟩ dX6_health_2) ?_
  refine lv_if_eq (tgt := 18) hx hb dX6_health_5 (by decide) (fun c_5 => ?_) (fun c_5 => ?_)
  · obtain ⟨i, hi, ei⟩ := pOut_f hL.1 c_5
    obtain ⟨b5, e5⟩ := h01 i hi
    refine lv_aload_n hx hb dX6_health_18 rfl (lv_at hl 0 rfl) ?_
    refine k_get (ci := 6) (C := RX6) (T := TX6) (N := 8) (v := .ref (ad 7)) hx hb hown hG rfl kin_X6 hw.o 0 (by decide) wF_X6_11 rfl dX6_health_19 ?_
    refine lv_iload_n hx hb dX6_health_22 rfl (lv_at hl 1 rfl) ?_
    refine k_aldq (v := (ad (10 + i))) hx hb hG 1 rfl hw.a7 (by rw [ei]; exact vp_in_nI (Nat.lt_of_lt_of_le hi hL.1) (by decide)) (by rw [ei]; exact aSt hi hL) dX6_health_23 ?_
    refine k_getN (ci := 3) (C := RX3) (T := TX3) (N := 11) (v := .int ((M (10 + i)) 5)) hx hb hown hG rfl kin_X3 (hw.st hL hi) 5 (by decide) wFN_X6_89 rfl dX6_health_24 ?_
    refine lv_istore_n (lv' := [(3, .int ((M (10 + i)) 5)), (0, .ref (ad 0)), (1, .int x), (2, .int (bI b))]) hx hb dX6_health_27 rfl hl (by decide) rfl (fun ls hl => ?_)
    have hml : c.maxLocals = ls.size := hml9.trans hl.1.symm
    refine lv_aload_n hx hb dX6_health_28 rfl (lv_at hl 1 rfl) ?_
    refine k_get (ci := 6) (C := RX6) (T := TX6) (N := 8) (v := .ref (ad 7)) hx hb hown hG rfl kin_X6 hw.o 0 (by decide) wF_X6_11 rfl dX6_health_29 ?_
    refine lv_iload_n hx hb dX6_health_32 rfl (lv_at hl 2 rfl) ?_
    refine k_aldq (v := (ad (10 + i))) hx hb hG 1 rfl hw.a7 (by rw [ei]; exact vp_in_nI (Nat.lt_of_lt_of_le hi hL.1) (by decide)) (by rw [ei]; exact aSt hi hL) dX6_health_33 ?_
    refine lv_iload_n hx hb dX6_health_34 rfl (lv_at hl 3 rfl) ?_
    refine k_putN (ci := 3) (C := RX3) (T := TX3) (N := 11) (v := .int (bI b)) hx hb hown hG rfl kin_X3 tyX3 tyX3_ok nmX3 (hw.st hL hi) hS (CA.of (LV.st hi)) 5 (by decide) wFN_X6_89 rfl (by first | exact bI_nar _ | decide) (by first | exact bI_fit _ | decide) (Nat.le_of_ble_eq_true rfl) dX6_health_35 (fun H1 locs hP1 z1 oq1 hS => ?_)
    have hq10i : va_P D vwCl [((ad (10 + i)), .inr (3, stF (upd (M (10 + i)) 5 (bI b))))] H1 := hP1
    have hw : CW D cy ad ns nt nr (mset M (10 + i) (upd (M (10 + i)) 5 (bI b))) V H1 := hw.setSt hA hL hi hq10i (fun q _ h => oq1 q h)
    refine lv_iload_n hx hb dX6_health_38 rfl (lv_at hl 0 rfl) ?_
    exact kx (Nat.zero_le _) (Nat.zero_le _) (ke_uz hx hb hr hlk hS dX6_health_39 e5 ⟨by unfold kOne; rw [if_pos c_5], i, hi, ei, e5.symm, hw⟩)
  · exact k_throw ex_ib wStr_X6_65 hx hb hml hown hlk hlf hG hnx hX hZ dX6_health_8 dX6_health_11 dX6_health_12 dX6_health_14 dX6_health_17 ⟨by decide, by decide, by decide, by decide⟩ ⟨by decide, by decide⟩ (Or.inl ⟨by unfold kOne; rw [if_neg c_5], rfl⟩)
set_option maxHeartbeats 4000000 in
set_option maxRecDepth 100000 in
theorem c_X6_listen (l : Launch) (hlf : l.stackTraces = false) (D : va_G) (cy : Nat → ClassId) (ad : Nat → Nat) (ns nt nr : Nat) (hL : LB ns nt nr) (M : Nat → Nat → Int32) (V : SX) (hA : AI ad ns nt nr) (t x : Int32) : vx_Met l yX6_listen [.code yX6_listen cX6_listen 5 (some .int)] ({ frames := 6, cells := 1, slots := 6, locals := 82 } : Room) (PX D cy [.ref (ad 0), .int t, .int x] (fun H => CW D cy ad ns nt nr M V H)) (UQi (CA ad ns nt nr) (fun r H => kListen M nt ns t x = 0 ∧ ∃ i j, i < nt ∧ j < ns ∧ t = nI i ∧ x = nI j ∧ r = rTake (M (10 + j)) (M 0 0) (M (20 + i) 1) 6 ∧ CW D cy ad ns nt nr (mset M (10 + j) (rTake (M (10 + j)) (M 0 0) (M (20 + i) 1))) V H)) (XQ (errP (kListen M nt ns t x) EIB EIS)) 1 6 (CA ad ns nt nr) := by
  refine k_bodyX (by decide +kernel) (Nat.le_of_ble_eq_true rfl) ?_
  intro p e s m below meth c ls hx hb hml hown hr hlk hmn hl hG hI hnx hX hZ
  have hml9 : c.maxLocals = 5 := hml.trans hl.1
  have hl : lv_has ls 5 [(0, .ref (ad 0)), (1, .int t), (2, .int x)] := hl
  have hS : va_S (CA ad ns nt nr) s.heap s.heap [] := va_S.rf
  have hw := hI
  refine lv_aload_n hx hb dX6_listen_0 rfl (lv_at hl 0 rfl) ?_
  refine lv_iload_n hx hb dX6_listen_1 rfl (lv_at hl 1 rfl) ?_
  refine kc_i (kr_V (As := [.int t]) (rest := []) hx hb hml hown hG (c_X6_isNoStation l D cy ad ns nt nr hL M V t) cf_X6_isNoStation wM_X6_103 hw.o rfl hw ⟨rfl, rfl, by decide, by decide⟩ rfl rfl (Nat.le_of_ble_eq_true rfl) ⟨Nat.le_of_ble_eq_true rfl, Nat.le_of_ble_eq_true rfl⟩ dX6_listen_2) ?_
  refine lv_if_ne (tgt := 16) hx hb dX6_listen_5 (by decide) (fun c_5 => ?_) (fun c_5 => ?_)
  · exact k_throw ex_ib wStr_X6_106 hx hb hml hown hlk hlf hG hnx hX hZ dX6_listen_16 dX6_listen_19 dX6_listen_20 dX6_listen_22 dX6_listen_25 ⟨by decide, by decide, by decide, by decide⟩ ⟨by decide, by decide⟩ (Or.inl ⟨by unfold kListen; rw [if_neg c_5], rfl⟩)
  · obtain ⟨i, hi, ei⟩ := pOut_f (Nat.le_trans hL.2.1 (by decide)) c_5
    refine lv_aload_n hx hb dX6_listen_8 rfl (lv_at hl 0 rfl) ?_
    refine lv_iload_n hx hb dX6_listen_9 rfl (lv_at hl 2 rfl) ?_
    refine kc_i (kr_V (As := [.int x]) (rest := []) hx hb hml hown hG (c_X6_isNoStar l D cy ad ns nt nr hL M V x) cf_X6_isNoStar wM_X6_59 hw.o rfl hw ⟨rfl, rfl, by decide, by decide⟩ rfl rfl (Nat.le_of_ble_eq_true rfl) ⟨Nat.le_of_ble_eq_true rfl, Nat.le_of_ble_eq_true rfl⟩ dX6_listen_10) ?_
    refine lv_if_eq (tgt := 26) hx hb dX6_listen_13 (by decide) (fun c_13 => ?_) (fun c_13 => ?_)
    · obtain ⟨j, hj, ej⟩ := pOut_f hL.1 c_13
      refine lv_aload_n hx hb dX6_listen_26 rfl (lv_at hl 0 rfl) ?_
      refine k_get (ci := 6) (C := RX6) (T := TX6) (N := 8) (v := .ref (ad 7)) hx hb hown hG rfl kin_X6 hw.o 0 (by decide) wF_X6_11 rfl dX6_listen_27 ?_
      refine lv_iload_n hx hb dX6_listen_30 rfl (lv_at hl 2 rfl) ?_
      refine k_aldq (v := (ad (10 + j))) hx hb hG 1 rfl hw.a7 (by rw [ej]; exact vp_in_nI (Nat.lt_of_lt_of_le hj hL.1) (by decide)) (by rw [ej]; exact aSt hj hL) dX6_listen_31 ?_
      refine lv_astore_n (lv' := [(3, .ref (ad (10 + j))), (0, .ref (ad 0)), (1, .int t), (2, .int x)]) hx hb dX6_listen_32 rfl hl (by decide) rfl (fun ls hl => ?_)
      have hml : c.maxLocals = ls.size := hml9.trans hl.1.symm
      refine lv_aload_n hx hb dX6_listen_33 rfl (lv_at hl 1 rfl) ?_
      refine k_get (ci := 6) (C := RX6) (T := TX6) (N := 8) (v := .ref (ad 8)) hx hb hown hG rfl kin_X6 hw.o 1 (by decide) wF_X6_17 rfl dX6_listen_34 ?_
      refine lv_iload_n hx hb dX6_listen_37 rfl (lv_at hl 2 rfl) ?_
      refine k_aldq (v := (ad (20 + i))) hx hb hG 2 rfl hw.a8 (by rw [ei]; exact vp_in_nI (Nat.lt_of_lt_of_le hi hL.2.1) (by decide)) (by rw [ei]; exact aSn hi hL) dX6_listen_38 ?_
      refine lv_astore (lv' := [(4, .ref (ad (20 + i))), (3, .ref (ad (10 + j))), (0, .ref (ad 0)), (1, .int t), (2, .int x)]) hx hb dX6_listen_39 hl (by decide) rfl (fun ls hl => ?_)
      have hml : c.maxLocals = ls.size := hml9.trans hl.1.symm
      refine lv_aload hx hb dX6_listen_41 (lv_at hl 0 rfl) ?_
      refine lv_aload_n hx hb dX6_listen_43 rfl (lv_at hl 1 rfl) ?_
      refine lv_iconst (v := 0) hx hb dX6_listen_44 (by decide) ?_
      refine kc_i (kr_VN (As := [.ref (ad (10 + j)), .int 0]) (rest := []) hx hb hml hown hG (c_X4_canHear l D cy (ad (20 + i)) (ad (10 + j)) (M (20 + i)) (M (10 + j)) 0) cf_X4_canHear wMN_X6_108 (hw.sn hL hi) rfl ⟨(hw.sn hL hi), (hw.st hL hj)⟩ ⟨rfl, rfl, by decide, by decide⟩ rfl rfl (Nat.le_of_ble_eq_true rfl) ⟨Nat.le_of_ble_eq_true rfl, Nat.le_of_ble_eq_true rfl⟩ dX6_listen_45) ?_
      refine lv_if_ne (tgt := 61) hx hb dX6_listen_48 (by decide) (fun c_48 => ?_) (fun c_48 => ?_)
      · refine lv_aload_n hx hb dX6_listen_61 rfl (lv_at hl 1 rfl) ?_
        refine lv_aload_n hx hb dX6_listen_62 rfl (lv_at hl 2 rfl) ?_
        refine k_get (ci := 6) (C := RX6) (T := TX6) (N := 8) (v := .int (M 0 0)) hx hb hown hG rfl kin_X6 hw.o 7 (by decide) wF_X6_114 rfl dX6_listen_63 ?_
        refine lv_aload hx hb dX6_listen_66 (lv_at hl 0 rfl) ?_
        refine k_getN (ci := 4) (C := RX4) (T := TX4) (N := 2) (v := .int ((M (20 + i)) 1)) hx hb hown hG rfl kin_X4 (hw.sn hL hi) 1 (by decide) wFN_X6_117 rfl dX6_listen_68 ?_
        refine kc_uv (kr_VN (As := [.int (M 0 0), .int ((M (20 + i)) 1)]) (rest := []) hx hb hml hown hG (c_X3_takeMessage l D cy (ad (10 + j)) (M (10 + j)) (M 0 0) ((M (20 + i)) 1)) cf_X3_takeMessage wMN_X6_120 (hw.st hL hj) rfl (hw.st hL hj) ⟨rfl, rfl, by decide, by decide⟩ rfl rfl (Nat.le_of_ble_eq_true rfl) ⟨Nat.le_of_ble_eq_true rfl, Nat.le_of_ble_eq_true rfl⟩ dX6_listen_71) hS (fun q h => h ▸ CA.of (LV.st hj)) (fun H1 locs hp1 z1 oq1 hS => ?_)
        have hq10j : va_P D vwCl [((ad (10 + j)), .inr (3, stF (rTake (M (10 + j)) (M 0 0) ((M (20 + i)) 1))))] H1 := hp1
        have hw : CW D cy ad ns nt nr (mset M (10 + j) (rTake (M (10 + j)) (M 0 0) ((M (20 + i)) 1))) V H1 := hw.setSt hA hL hj hq10j oq1
        refine lv_aload_n hx hb dX6_listen_74 rfl (lv_at hl 1 rfl) ?_
        refine k_getN (ci := 3) (C := RX3) (T := TX3) (N := 11) (v := .int ((rTake (M (10 + j)) (M 0 0) ((M (20 + i)) 1)) 6)) hx hb hown hG rfl kin_X3 hq10j 6 (by decide) wFN_X6_123 rfl dX6_listen_75 ?_
        exact kx (Nat.zero_le _) (Nat.zero_le _) (ke_ui hx hb hr hlk hS dX6_listen_78 ⟨by unfold kListen; rw [if_pos c_5, if_pos c_13, show (pHear (M (20 + t.toNatClampNeg)) (M (10 + x.toNatClampNeg)) 0) = (pHear (M (20 + i)) (M (10 + j)) 0) by rw [ei, ej, nI_clamp (by have := hL.2.1; omega), nI_clamp (by have := hL.1; omega)], if_neg c_48], i, j, hi, hj, ei, ej, rfl, hw⟩)
      · exact k_throw ex_is wStr_X6_112 hx hb hml hown hlk hlf hG hnx hX hZ dX6_listen_51 dX6_listen_54 dX6_listen_55 dX6_listen_57 dX6_listen_60 ⟨by decide, by decide, by decide, by decide⟩ ⟨by decide, by decide⟩ (Or.inr ⟨by unfold kListen; rw [if_pos c_5, if_pos c_13, show (pHear (M (20 + t.toNatClampNeg)) (M (10 + x.toNatClampNeg)) 0) = (pHear (M (20 + i)) (M (10 + j)) 0) by rw [ei, ej, nI_clamp (by have := hL.2.1; omega), nI_clamp (by have := hL.1; omega)], if_pos c_48], rfl⟩)
    · exact k_throw ex_ib wStr_X6_106 hx hb hml hown hlk hlf hG hnx hX hZ dX6_listen_16 dX6_listen_19 dX6_listen_20 dX6_listen_22 dX6_listen_25 ⟨by decide, by decide, by decide, by decide⟩ ⟨by decide, by decide⟩ (Or.inl ⟨by unfold kListen; rw [if_pos c_5, if_neg c_13], rfl⟩)
set_option maxHeartbeats 4000000 in
set_option maxRecDepth 100000 in
theorem c_X6_go (l : Launch) (hlf : l.stackTraces = false) (D : va_G) (cy : Nat → ClassId) (ad : Nat → Nat) (ns nt nr : Nat) (hL : LB ns nt nr) (M : Nat → Nat → Int32) (V : SX) (hA : AI ad ns nt nr) (x u v : Int32) : vx_Met l yX6_go [.code yX6_go cX6_go 6 (some .int)] ({ frames := 6, cells := 1, slots := 6, locals := 82 } : Room) (PX D cy [.ref (ad 0), .int x, .int u, .int v] (fun H => CW D cy ad ns nt nr M V H)) (UQi (CA ad ns nt nr) (fun r H => kGo nr x u v = 0 ∧ ∃ i, i < nr ∧ x = nI i ∧ r = pRange (M (30 + i) 4) (M (30 + i) 5) u v ∧ CW D cy ad ns nt nr (mset M (30 + i) (upd (upd (M (30 + i)) 4 u) 5 v)) V H)) (XQ (errP (kGo nr x u v) EIB EIA)) 1 6 (CA ad ns nt nr) := by
  refine k_bodyX (by decide +kernel) (Nat.le_of_ble_eq_true rfl) ?_
  intro p e s m below meth c ls hx hb hml hown hr hlk hmn hl hG hI hnx hX hZ
  have hml9 : c.maxLocals = 6 := hml.trans hl.1
  have hl : lv_has ls 6 [(0, .ref (ad 0)), (1, .int x), (2, .int u), (3, .int v)] := hl
  have hS : va_S (CA ad ns nt nr) s.heap s.heap [] := va_S.rf
  have hw := hI
  refine lv_aload_n hx hb dX6_go_0 rfl (lv_at hl 0 rfl) ?_
  refine lv_iload_n hx hb dX6_go_1 rfl (lv_at hl 1 rfl) ?_
  refine kc_i (kr_V (As := [.int x]) (rest := []) hx hb hml hown hG (c_X6_isNoReceiver l D cy ad ns nt nr hL M V x) cf_X6_isNoReceiver wM_X6_140 hw.o rfl hw ⟨rfl, rfl, by decide, by decide⟩ rfl rfl (Nat.le_of_ble_eq_true rfl) ⟨Nat.le_of_ble_eq_true rfl, Nat.le_of_ble_eq_true rfl⟩ dX6_go_2) ?_
  refine lv_if_eq (tgt := 18) hx hb dX6_go_5 (by decide) (fun c_5 => ?_) (fun c_5 => ?_)
  · obtain ⟨i, hi, ei⟩ := pOut_f (Nat.le_trans hL.2.2 (by decide)) c_5
    refine lv_iload_n hx hb dX6_go_18 rfl (lv_at hl 2 rfl) ?_
    refine lv_iload_n hx hb dX6_go_19 rfl (lv_at hl 3 rfl) ?_
    refine kc_i (kr_S (As := [.int u, .int v]) (rest := []) hx hb hml hown hG (c_X6_isNoPlace l D cy u v) cf_X6_isNoPlace wM_X6_126 trivial ⟨rfl, rfl, by decide, by decide⟩ rfl rfl (Nat.le_of_ble_eq_true rfl) ⟨Nat.le_of_ble_eq_true rfl, Nat.le_of_ble_eq_true rfl⟩ dX6_go_20) ?_
    refine lv_if_eq (tgt := 36) hx hb dX6_go_23 (by decide) (fun c_23 => ?_) (fun c_23 => ?_)
    · refine lv_aload_n hx hb dX6_go_36 rfl (lv_at hl 0 rfl) ?_
      refine k_get (ci := 6) (C := RX6) (T := TX6) (N := 8) (v := .ref (ad 9)) hx hb hown hG rfl kin_X6 hw.o 2 (by decide) wF_X6_23 rfl dX6_go_37 ?_
      refine lv_iload_n hx hb dX6_go_40 rfl (lv_at hl 1 rfl) ?_
      refine k_aldq (v := (ad (30 + i))) hx hb hG 3 rfl hw.a9 (by rw [ei]; exact vp_in_nI (n := i) (Nat.lt_of_lt_of_le hi hL.2.2) (by decide)) (by rw [ei]; exact aRc (i := i) hi hL) dX6_go_41 ?_
      refine lv_astore (lv' := [(4, .ref (ad (30 + i))), (0, .ref (ad 0)), (1, .int x), (2, .int u), (3, .int v)]) hx hb dX6_go_42 hl (by decide) rfl (fun ls hl => ?_)
      have hml : c.maxLocals = ls.size := hml9.trans hl.1.symm
      refine lv_aload hx hb dX6_go_44 (lv_at hl 0 rfl) ?_
      refine k_getN (ci := 0) (C := RX0) (T := TX0) (N := 13) (v := .int ((M (30 + i)) 4)) hx hb hown hG rfl kin_X0 (hw.rc hL hi) 4 (by decide) wFN_X6_147 rfl dX6_go_46 ?_
      refine lv_aload hx hb dX6_go_49 (lv_at hl 0 rfl) ?_
      refine k_getN (ci := 0) (C := RX0) (T := TX0) (N := 13) (v := .int ((M (30 + i)) 5)) hx hb hown hG rfl kin_X0 (hw.rc hL hi) 5 (by decide) wFN_X6_150 rfl dX6_go_51 ?_
      refine lv_iload_n hx hb dX6_go_54 rfl (lv_at hl 3 rfl) ?_
      refine lv_iload_n hx hb dX6_go_55 rfl (lv_at hl 4 rfl) ?_
      refine kc_i (kr_S (As := [.int ((M (30 + i)) 4), .int ((M (30 + i)) 5), .int u, .int v]) (rest := []) hx hb hml hown hG (c_X6_rangeOf l D cy ((M (30 + i)) 4) ((M (30 + i)) 5) u v) cf_X6_rangeOf wM_X6_153 trivial ⟨rfl, rfl, by decide, by decide⟩ rfl rfl (Nat.le_of_ble_eq_true rfl) ⟨Nat.le_of_ble_eq_true rfl, Nat.le_of_ble_eq_true rfl⟩ dX6_go_56) ?_
      refine lv_istore (lv' := [(5, .int (pRange ((M (30 + i)) 4) ((M (30 + i)) 5) u v)), (4, .ref (ad (30 + i))), (0, .ref (ad 0)), (1, .int x), (2, .int u), (3, .int v)]) hx hb dX6_go_59 hl (by decide) rfl (fun ls hl => ?_)
      have hml : c.maxLocals = ls.size := hml9.trans hl.1.symm
      refine lv_aload hx hb dX6_go_61 (lv_at hl 1 rfl) ?_
      refine lv_iload_n hx hb dX6_go_63 rfl (lv_at hl 4 rfl) ?_
      refine k_putN (ci := 0) (C := RX0) (T := TX0) (N := 13) (v := .int u) hx hb hown hG rfl kin_X0 tyX0 tyX0_ok nmX0 (hw.rc hL hi) hS (CA.of (LV.rc hi)) 4 (by decide) wFN_X6_147 rfl rfl rfl (Nat.le_of_ble_eq_true rfl) dX6_go_64 (fun H1 locs hP1 z1 oq1 hS => ?_)
      have hq30i : va_P D vwCl [((ad (30 + i)), .inr (0, rcF (upd (M (30 + i)) 4 u) (ad (40 + i)) (ad (50 + i))))] H1 := hP1
      have hw : CW D cy ad ns nt nr (mset M (30 + i) (upd (M (30 + i)) 4 u)) V H1 := hw.setRc hA hL hi hq30i (fun q _ h => oq1 q h)
      refine lv_aload hx hb dX6_go_67 (lv_at hl 1 rfl) ?_
      refine lv_iload_n hx hb dX6_go_69 rfl (lv_at hl 5 rfl) ?_
      refine k_putN (ci := 0) (C := RX0) (T := TX0) (N := 13) (v := .int v) hx hb hown hG rfl kin_X0 tyX0 tyX0_ok nmX0 hq30i hS (CA.of (LV.rc hi)) 5 (by decide) wFN_X6_150 rfl rfl rfl (Nat.le_of_ble_eq_true rfl) dX6_go_70 (fun H1 locs hP1 z1 oq1 hS => ?_)
      have hq30i : va_P D vwCl [((ad (30 + i)), .inr (0, rcF (upd (upd (M (30 + i)) 4 u) 5 v) (ad (40 + i)) (ad (50 + i))))] H1 := hP1
      have hw : CW D cy ad ns nt nr (mset M (30 + i) (upd (upd (M (30 + i)) 4 u) 5 v)) V H1 := by rw [← mset_mset M (30 + i) (upd (M (30 + i)) 4 u) (upd (upd (M (30 + i)) 4 u) 5 v)]; exact hw.setRc hA hL hi hq30i (fun q _ h => oq1 q h)
      refine lv_iload hx hb dX6_go_73 (lv_at hl 0 rfl) ?_
      exact kx (Nat.zero_le _) (Nat.zero_le _) (ke_ui hx hb hr hlk hS dX6_go_75 ⟨by unfold kGo; rw [if_pos c_5, if_pos c_23], i, hi, ei, rfl, hw⟩)
    · exact k_throw ex_ia wStr_X6_145 hx hb hml hown hlk hlf hG hnx hX hZ dX6_go_26 dX6_go_29 dX6_go_30 dX6_go_32 dX6_go_35 ⟨by decide, by decide, by decide, by decide⟩ ⟨by decide, by decide⟩ (Or.inr ⟨by unfold kGo; rw [if_pos c_5, if_neg c_23], rfl⟩)
  · exact k_throw ex_ib wStr_X6_143 hx hb hml hown hlk hlf hG hnx hX hZ dX6_go_8 dX6_go_11 dX6_go_12 dX6_go_14 dX6_go_17 ⟨by decide, by decide, by decide, by decide⟩ ⟨by decide, by decide⟩ (Or.inl ⟨by unfold kGo; rw [if_neg c_5], rfl⟩)
set_option maxHeartbeats 4000000 in
set_option maxRecDepth 100000 in
theorem c_X6_hills (l : Launch) (hlf : l.stackTraces = false) (D : va_G) (cy : Nat → ClassId) (ad : Nat → Nat) (ns nt nr : Nat) (hL : LB ns nt nr) (M : Nat → Nat → Int32) (V : SX) (hA : AI ad ns nt nr) (x lf rt : Int32) : vx_Met l yX6_hills [.code yX6_hills cX6_hills 5 (some .int)] ({ frames := 6, cells := 1, slots := 6, locals := 89 } : Room) (PX D cy [.ref (ad 0), .int x, .int lf, .int rt] (fun H => CW D cy ad ns nt nr M V H)) (UQi (CA ad ns nt nr) (fun r H => kHills nr x lf rt = 0 ∧ ∃ i, i < nr ∧ x = nI i ∧ r = pBits (pSet (upd (upd (M (30 + i)) 6 lf) 7 rt) M 0 ns) ∧ CW D cy ad ns nt nr (mset M (30 + i) (upd (upd (M (30 + i)) 6 lf) 7 rt)) V H)) (XQ (errP (kHills nr x lf rt) EIB EIA)) 1 6 (CA ad ns nt nr) := by
  refine k_bodyX (by decide +kernel) (Nat.le_of_ble_eq_true rfl) ?_
  intro p e s m below meth c ls hx hb hml hown hr hlk hmn hl hG hI hnx hX hZ
  have hml9 : c.maxLocals = 5 := hml.trans hl.1
  have hl : lv_has ls 5 [(0, .ref (ad 0)), (1, .int x), (2, .int lf), (3, .int rt)] := hl
  have hS : va_S (CA ad ns nt nr) s.heap s.heap [] := va_S.rf
  have hw := hI
  refine lv_aload_n hx hb dX6_hills_0 rfl (lv_at hl 0 rfl) ?_
  refine lv_iload_n hx hb dX6_hills_1 rfl (lv_at hl 1 rfl) ?_
  refine kc_i (kr_V (As := [.int x]) (rest := []) hx hb hml hown hG (c_X6_isNoReceiver l D cy ad ns nt nr hL M V x) cf_X6_isNoReceiver wM_X6_140 hw.o rfl hw ⟨rfl, rfl, by decide, by decide⟩ rfl rfl (Nat.le_of_ble_eq_true rfl) ⟨Nat.le_of_ble_eq_true rfl, Nat.le_of_ble_eq_true rfl⟩ dX6_hills_2) ?_
  refine lv_if_eq (tgt := 18) hx hb dX6_hills_5 (by decide) (fun c_5 => ?_) (fun c_5 => ?_)
  · obtain ⟨i, hi, ei⟩ := pOut_f (Nat.le_trans hL.2.2 (by decide)) c_5
    refine lv_iload_n hx hb dX6_hills_18 rfl (lv_at hl 2 rfl) ?_
    refine lv_iconst (v := 0) hx hb dX6_hills_19 (by decide) ?_
    refine lv_bipush (v := 60) hx hb dX6_hills_20 (by decide) ?_
    refine kc_i (kr_S (As := [.int lf, .int 0, .int 60]) (rest := []) hx hb hml hown hG (c_X6_isOutside l D cy lf 0 60) cf_X6_isOutside wM_X6_34 trivial ⟨rfl, rfl, by decide, by decide⟩ rfl rfl (Nat.le_of_ble_eq_true rfl) ⟨Nat.le_of_ble_eq_true rfl, Nat.le_of_ble_eq_true rfl⟩ dX6_hills_22) ?_
    refine lv_if_ne (tgt := 38) hx hb dX6_hills_25 (by decide) (fun c_25 => ?_) (fun c_25 => ?_)
    · exact k_throw ex_ia wStr_X6_157 hx hb hml hown hlk hlf hG hnx hX hZ dX6_hills_38 dX6_hills_41 dX6_hills_42 dX6_hills_44 dX6_hills_47 ⟨by decide, by decide, by decide, by decide⟩ ⟨by decide, by decide⟩ (Or.inr ⟨by unfold kHills; rw [if_pos c_5, if_neg c_25], rfl⟩)
    · refine lv_iload_n hx hb dX6_hills_28 rfl (lv_at hl 3 rfl) ?_
      refine lv_iconst (v := 0) hx hb dX6_hills_29 (by decide) ?_
      refine lv_bipush (v := 60) hx hb dX6_hills_30 (by decide) ?_
      refine kc_i (kr_S (As := [.int rt, .int 0, .int 60]) (rest := []) hx hb hml hown hG (c_X6_isOutside l D cy rt 0 60) cf_X6_isOutside wM_X6_34 trivial ⟨rfl, rfl, by decide, by decide⟩ rfl rfl (Nat.le_of_ble_eq_true rfl) ⟨Nat.le_of_ble_eq_true rfl, Nat.le_of_ble_eq_true rfl⟩ dX6_hills_32) ?_
      refine lv_if_eq (tgt := 48) hx hb dX6_hills_35 (by decide) (fun c_35 => ?_) (fun c_35 => ?_)
      · refine lv_aload_n hx hb dX6_hills_48 rfl (lv_at hl 0 rfl) ?_
        refine k_get (ci := 6) (C := RX6) (T := TX6) (N := 8) (v := .ref (ad 9)) hx hb hown hG rfl kin_X6 hw.o 2 (by decide) wF_X6_23 rfl dX6_hills_49 ?_
        refine lv_iload_n hx hb dX6_hills_52 rfl (lv_at hl 1 rfl) ?_
        refine k_aldq (v := (ad (30 + i))) hx hb hG 3 rfl hw.a9 (by rw [ei]; exact vp_in_nI (n := i) (Nat.lt_of_lt_of_le hi hL.2.2) (by decide)) (by rw [ei]; exact aRc (i := i) hi hL) dX6_hills_53 ?_
        refine lv_astore (lv' := [(4, .ref (ad (30 + i))), (0, .ref (ad 0)), (1, .int x), (2, .int lf), (3, .int rt)]) hx hb dX6_hills_54 hl (by decide) rfl (fun ls hl => ?_)
        have hml : c.maxLocals = ls.size := hml9.trans hl.1.symm
        refine lv_aload hx hb dX6_hills_56 (lv_at hl 0 rfl) ?_
        refine lv_iload_n hx hb dX6_hills_58 rfl (lv_at hl 3 rfl) ?_
        refine k_putN (ci := 0) (C := RX0) (T := TX0) (N := 13) (v := .int lf) hx hb hown hG rfl kin_X0 tyX0 tyX0_ok nmX0 (hw.rc hL hi) hS (CA.of (LV.rc hi)) 6 (by decide) wFN_X6_159 rfl rfl rfl (Nat.le_of_ble_eq_true rfl) dX6_hills_59 (fun H1 locs hP1 z1 oq1 hS => ?_)
        have hq30i : va_P D vwCl [((ad (30 + i)), .inr (0, rcF (upd (M (30 + i)) 6 lf) (ad (40 + i)) (ad (50 + i))))] H1 := hP1
        have hw : CW D cy ad ns nt nr (mset M (30 + i) (upd (M (30 + i)) 6 lf)) V H1 := hw.setRc hA hL hi hq30i (fun q _ h => oq1 q h)
        refine lv_aload hx hb dX6_hills_62 (lv_at hl 0 rfl) ?_
        refine lv_iload_n hx hb dX6_hills_64 rfl (lv_at hl 4 rfl) ?_
        refine k_putN (ci := 0) (C := RX0) (T := TX0) (N := 13) (v := .int rt) hx hb hown hG rfl kin_X0 tyX0 tyX0_ok nmX0 hq30i hS (CA.of (LV.rc hi)) 7 (by decide) wFN_X6_162 rfl rfl rfl (Nat.le_of_ble_eq_true rfl) dX6_hills_65 (fun H1 locs hP1 z1 oq1 hS => ?_)
        have hq30i : va_P D vwCl [((ad (30 + i)), .inr (0, rcF (upd (upd (M (30 + i)) 6 lf) 7 rt) (ad (40 + i)) (ad (50 + i))))] H1 := hP1
        have hw : CW D cy ad ns nt nr (mset M (30 + i) (upd (upd (M (30 + i)) 6 lf) 7 rt)) V H1 := by rw [← mset_mset M (30 + i) (upd (M (30 + i)) 6 lf) (upd (upd (M (30 + i)) 6 lf) 7 rt)]; exact hw.setRc hA hL hi hq30i (fun q _ h => oq1 q h)
        refine lv_aload_n hx hb dX6_hills_68 rfl (lv_at hl 1 rfl) ?_
        refine lv_aload hx hb dX6_hills_69 (lv_at hl 0 rfl) ?_
        refine lv_iconst (v := 0) hx hb dX6_hills_71 (by decide) ?_
        refine kc_i (kr_V (As := [.ref (ad (30 + i)), .int 0]) (rest := []) hx hb hml hown hG (c_X6_setSeen l D cy ad ns nt nr hL (mset M (30 + i) (upd (upd (M (30 + i)) 6 lf) 7 rt)) V i hi 0) cf_X6_setSeen wM_X6_165 hw.o rfl hw ⟨rfl, rfl, by decide, by decide⟩ rfl rfl (Nat.le_of_ble_eq_true rfl) ⟨Nat.le_of_ble_eq_true rfl, Nat.le_of_ble_eq_true rfl⟩ dX6_hills_72) ?_
        refine kc_i (kr_S (As := [.int (pSet ((mset M (30 + i) (upd (upd (M (30 + i)) 6 lf) 7 rt)) (30 + i)) (mset M (30 + i) (upd (upd (M (30 + i)) 6 lf) 7 rt)) 0 ns)]) (rest := []) hx hb hml hown hG (c_J6_bitCount_0f7a4 l D cy (pSet ((mset M (30 + i) (upd (upd (M (30 + i)) 6 lf) 7 rt)) (30 + i)) (mset M (30 + i) (upd (upd (M (30 + i)) 6 lf) 7 rt)) 0 ns)) cf_J6_bitCount_0f7a4 wM_X6_169 trivial ⟨rfl, rfl, by decide, by decide⟩ rfl rfl (Nat.le_of_ble_eq_true rfl) ⟨Nat.le_of_ble_eq_true rfl, Nat.le_of_ble_eq_true rfl⟩ dX6_hills_75) ?_
        exact kx (Nat.zero_le _) (Nat.zero_le _) (ke_ui hx hb hr hlk hS dX6_hills_78 ⟨by unfold kHills; rw [if_pos c_5, if_pos c_25, if_pos c_35], i, hi, ei, by rw [mset_s, pSet_mset (by omega) hL.1], hw⟩)
      · exact k_throw ex_ia wStr_X6_157 hx hb hml hown hlk hlf hG hnx hX hZ dX6_hills_38 dX6_hills_41 dX6_hills_42 dX6_hills_44 dX6_hills_47 ⟨by decide, by decide, by decide, by decide⟩ ⟨by decide, by decide⟩ (Or.inr ⟨by unfold kHills; rw [if_pos c_5, if_pos c_25, if_neg c_35], rfl⟩)
  · exact k_throw ex_ib wStr_X6_143 hx hb hml hown hlk hlf hG hnx hX hZ dX6_hills_8 dX6_hills_11 dX6_hills_12 dX6_hills_14 dX6_hills_17 ⟨by decide, by decide, by decide, by decide⟩ ⟨by decide, by decide⟩ (Or.inl ⟨by unfold kHills; rw [if_neg c_5], rfl⟩)
set_option maxHeartbeats 4000000 in
set_option maxRecDepth 100000 in
theorem c_X6_air (l : Launch) (hlf : l.stackTraces = false) (D : va_G) (cy : Nat → ClassId) (ad : Nat → Nat) (ns nt nr : Nat) (hL : LB ns nt nr) (M : Nat → Nat → Int32) (V : SX) (hA : AI ad ns nt nr) (x io : Int32) (b : Bool) : vx_Met l yX6_air [.code yX6_air cX6_air 6 (some .int)] ({ frames := 6, cells := 1, slots := 6, locals := 82 } : Room) (PX D cy [.ref (ad 0), .int x, .int io, .int (bI b)] (fun H => CW D cy ad ns nt nr M V H)) (UQi (CA ad ns nt nr) (fun r H => kRng nr x io 0 9 = 0 ∧ ∃ i, i < nr ∧ x = nI i ∧ r = M (30 + i) 8 ∧ CW D cy ad ns nt nr (mset M (30 + i) (upd (upd (M (30 + i)) 8 io) 9 (bI b))) V H)) (XQ (errP (kRng nr x io 0 9) EIB EIA)) 1 6 (CA ad ns nt nr) := by
  refine k_bodyX (by decide +kernel) (Nat.le_of_ble_eq_true rfl) ?_
  intro p e s m below meth c ls hx hb hml hown hr hlk hmn hl hG hI hnx hX hZ
  have hml9 : c.maxLocals = 6 := hml.trans hl.1
  have hl : lv_has ls 6 [(0, .ref (ad 0)), (1, .int x), (2, .int io), (3, .int (bI b))] := hl
  have hS : va_S (CA ad ns nt nr) s.heap s.heap [] := va_S.rf
  have hw := hI
  refine lv_aload_n hx hb dX6_air_0 rfl (lv_at hl 0 rfl) ?_
  refine lv_iload_n hx hb dX6_air_1 rfl (lv_at hl 1 rfl) ?_
  refine kc_i (kr_V (As := [.int x]) (rest := []) hx hb hml hown hG (c_X6_isNoReceiver l D cy ad ns nt nr hL M V x) cf_X6_isNoReceiver wM_X6_140 hw.o rfl hw ⟨rfl, rfl, by decide, by decide⟩ rfl rfl (Nat.le_of_ble_eq_true rfl) ⟨Nat.le_of_ble_eq_true rfl, Nat.le_of_ble_eq_true rfl⟩ dX6_air_2) ?_
  refine lv_if_eq (tgt := 18) hx hb dX6_air_5 (by decide) (fun c_5 => ?_) (fun c_5 => ?_)
  · obtain ⟨i, hi, ei⟩ := pOut_f (Nat.le_trans hL.2.2 (by decide)) c_5
    refine lv_iload_n hx hb dX6_air_18 rfl (lv_at hl 2 rfl) ?_
    refine lv_iconst (v := 0) hx hb dX6_air_19 (by decide) ?_
    refine lv_bipush (v := 9) hx hb dX6_air_20 (by decide) ?_
    refine kc_i (kr_S (As := [.int io, .int 0, .int 9]) (rest := []) hx hb hml hown hG (c_X6_isOutside l D cy io 0 9) cf_X6_isOutside wM_X6_34 trivial ⟨rfl, rfl, by decide, by decide⟩ rfl rfl (Nat.le_of_ble_eq_true rfl) ⟨Nat.le_of_ble_eq_true rfl, Nat.le_of_ble_eq_true rfl⟩ dX6_air_22) ?_
    refine lv_if_eq (tgt := 38) hx hb dX6_air_25 (by decide) (fun c_25 => ?_) (fun c_25 => ?_)
    · refine lv_aload_n hx hb dX6_air_38 rfl (lv_at hl 0 rfl) ?_
      refine k_get (ci := 6) (C := RX6) (T := TX6) (N := 8) (v := .ref (ad 9)) hx hb hown hG rfl kin_X6 hw.o 2 (by decide) wF_X6_23 rfl dX6_air_39 ?_
      refine lv_iload_n hx hb dX6_air_42 rfl (lv_at hl 1 rfl) ?_
      refine k_aldq (v := (ad (30 + i))) hx hb hG 3 rfl hw.a9 (by rw [ei]; exact vp_in_nI (n := i) (Nat.lt_of_lt_of_le hi hL.2.2) (by decide)) (by rw [ei]; exact aRc (i := i) hi hL) dX6_air_43 ?_
      refine lv_astore (lv' := [(4, .ref (ad (30 + i))), (0, .ref (ad 0)), (1, .int x), (2, .int io), (3, .int (bI b))]) hx hb dX6_air_44 hl (by decide) rfl (fun ls hl => ?_)
      have hml : c.maxLocals = ls.size := hml9.trans hl.1.symm
      refine lv_aload hx hb dX6_air_46 (lv_at hl 0 rfl) ?_
      refine k_getN (ci := 0) (C := RX0) (T := TX0) (N := 13) (v := .int ((M (30 + i)) 8)) hx hb hown hG rfl kin_X0 (hw.rc hL hi) 8 (by decide) wFN_X6_177 rfl dX6_air_48 ?_
      refine lv_istore (lv' := [(5, .int ((M (30 + i)) 8)), (4, .ref (ad (30 + i))), (0, .ref (ad 0)), (1, .int x), (2, .int io), (3, .int (bI b))]) hx hb dX6_air_51 hl (by decide) rfl (fun ls hl => ?_)
      have hml : c.maxLocals = ls.size := hml9.trans hl.1.symm
      refine lv_aload hx hb dX6_air_53 (lv_at hl 1 rfl) ?_
      refine lv_iload_n hx hb dX6_air_55 rfl (lv_at hl 4 rfl) ?_
      refine k_putN (ci := 0) (C := RX0) (T := TX0) (N := 13) (v := .int io) hx hb hown hG rfl kin_X0 tyX0 tyX0_ok nmX0 (hw.rc hL hi) hS (CA.of (LV.rc hi)) 8 (by decide) wFN_X6_177 rfl rfl rfl (Nat.le_of_ble_eq_true rfl) dX6_air_56 (fun H1 locs hP1 z1 oq1 hS => ?_)
      have hq30i : va_P D vwCl [((ad (30 + i)), .inr (0, rcF (upd (M (30 + i)) 8 io) (ad (40 + i)) (ad (50 + i))))] H1 := hP1
      have hw : CW D cy ad ns nt nr (mset M (30 + i) (upd (M (30 + i)) 8 io)) V H1 := hw.setRc hA hL hi hq30i (fun q _ h => oq1 q h)
      refine lv_aload hx hb dX6_air_59 (lv_at hl 1 rfl) ?_
      refine lv_iload_n hx hb dX6_air_61 rfl (lv_at hl 5 rfl) ?_
      refine k_putN (ci := 0) (C := RX0) (T := TX0) (N := 13) (v := .int (bI b)) hx hb hown hG rfl kin_X0 tyX0 tyX0_ok nmX0 hq30i hS (CA.of (LV.rc hi)) 9 (by decide) wFN_X6_179 rfl (by first | exact bI_nar _ | decide) (by first | exact bI_fit _ | decide) (Nat.le_of_ble_eq_true rfl) dX6_air_62 (fun H1 locs hP1 z1 oq1 hS => ?_)
      have hq30i : va_P D vwCl [((ad (30 + i)), .inr (0, rcF (upd (upd (M (30 + i)) 8 io) 9 (bI b)) (ad (40 + i)) (ad (50 + i))))] H1 := hP1
      have hw : CW D cy ad ns nt nr (mset M (30 + i) (upd (upd (M (30 + i)) 8 io) 9 (bI b))) V H1 := by rw [← mset_mset M (30 + i) (upd (M (30 + i)) 8 io) (upd (upd (M (30 + i)) 8 io) 9 (bI b))]; exact hw.setRc hA hL hi hq30i (fun q _ h => oq1 q h)
      refine lv_iload hx hb dX6_air_65 (lv_at hl 0 rfl) ?_
      exact kx (Nat.zero_le _) (Nat.zero_le _) (ke_ui hx hb hr hlk hS dX6_air_67 ⟨by unfold kRng; rw [if_pos c_5, if_pos c_25], i, hi, ei, rfl, hw⟩)
    · exact k_throw ex_ia wStr_X6_175 hx hb hml hown hlk hlf hG hnx hX hZ dX6_air_28 dX6_air_31 dX6_air_32 dX6_air_34 dX6_air_37 ⟨by decide, by decide, by decide, by decide⟩ ⟨by decide, by decide⟩ (Or.inr ⟨by unfold kRng; rw [if_pos c_5, if_neg c_25], rfl⟩)
  · exact k_throw ex_ib wStr_X6_143 hx hb hml hown hlk hlf hG hnx hX hZ dX6_air_8 dX6_air_11 dX6_air_12 dX6_air_14 dX6_air_17 ⟨by decide, by decide, by decide, by decide⟩ ⟨by decide, by decide⟩ (Or.inl ⟨by unfold kRng; rw [if_neg c_5], rfl⟩)
set_option maxHeartbeats 4000000 in
set_option maxRecDepth 100000 in
theorem c_X6_alert (l : Launch) (hlf : l.stackTraces = false) (D : va_G) (cy : Nat → ClassId) (ad : Nat → Nat) (ns nt nr : Nat) (hL : LB ns nt nr) (M : Nat → Nat → Int32) (V : SX) (hA : AI ad ns nt nr) (x w : Int32) : vx_Met l yX6_alert [.code yX6_alert cX6_alert 4 (some .int)] ({ frames := 6, cells := 1, slots := 6, locals := 82 } : Room) (PX D cy [.ref (ad 0), .int x, .int w] (fun H => CW D cy ad ns nt nr M V H)) (UQi (CA ad ns nt nr) (fun r H => kRng nr x w 1 24 = 0 ∧ ∃ i, i < nr ∧ x = nI i ∧ r = M (30 + i) 10 ∧ CW D cy ad ns nt nr (mset M (30 + i) (upd (M (30 + i)) 10 w)) V H)) (XQ (errP (kRng nr x w 1 24) EIB EIA)) 1 6 (CA ad ns nt nr) := by
  refine k_bodyX (by decide +kernel) (Nat.le_of_ble_eq_true rfl) ?_
  intro p e s m below meth c ls hx hb hml hown hr hlk hmn hl hG hI hnx hX hZ
  have hml9 : c.maxLocals = 4 := hml.trans hl.1
  have hl : lv_has ls 4 [(0, .ref (ad 0)), (1, .int x), (2, .int w)] := hl
  have hS : va_S (CA ad ns nt nr) s.heap s.heap [] := va_S.rf
  have hw := hI
  refine lv_aload_n hx hb dX6_alert_0 rfl (lv_at hl 0 rfl) ?_
  refine lv_iload_n hx hb dX6_alert_1 rfl (lv_at hl 1 rfl) ?_
  refine kc_i (kr_V (As := [.int x]) (rest := []) hx hb hml hown hG (c_X6_isNoReceiver l D cy ad ns nt nr hL M V x) cf_X6_isNoReceiver wM_X6_140 hw.o rfl hw ⟨rfl, rfl, by decide, by decide⟩ rfl rfl (Nat.le_of_ble_eq_true rfl) ⟨Nat.le_of_ble_eq_true rfl, Nat.le_of_ble_eq_true rfl⟩ dX6_alert_2) ?_
  refine lv_if_eq (tgt := 18) hx hb dX6_alert_5 (by decide) (fun c_5 => ?_) (fun c_5 => ?_)
  · obtain ⟨i, hi, ei⟩ := pOut_f (Nat.le_trans hL.2.2 (by decide)) c_5
    refine lv_iload_n hx hb dX6_alert_18 rfl (lv_at hl 2 rfl) ?_
    refine lv_iconst (v := 1) hx hb dX6_alert_19 (by decide) ?_
    refine lv_bipush (v := 24) hx hb dX6_alert_20 (by decide) ?_
    refine kc_i (kr_S (As := [.int w, .int 1, .int 24]) (rest := []) hx hb hml hown hG (c_X6_isOutside l D cy w 1 24) cf_X6_isOutside wM_X6_34 trivial ⟨rfl, rfl, by decide, by decide⟩ rfl rfl (Nat.le_of_ble_eq_true rfl) ⟨Nat.le_of_ble_eq_true rfl, Nat.le_of_ble_eq_true rfl⟩ dX6_alert_22) ?_
    refine lv_if_eq (tgt := 38) hx hb dX6_alert_25 (by decide) (fun c_25 => ?_) (fun c_25 => ?_)
    · refine lv_aload_n hx hb dX6_alert_38 rfl (lv_at hl 0 rfl) ?_
      refine k_get (ci := 6) (C := RX6) (T := TX6) (N := 8) (v := .ref (ad 9)) hx hb hown hG rfl kin_X6 hw.o 2 (by decide) wF_X6_23 rfl dX6_alert_39 ?_
      refine lv_iload_n hx hb dX6_alert_42 rfl (lv_at hl 1 rfl) ?_
      refine k_aldq (v := (ad (30 + i))) hx hb hG 3 rfl hw.a9 (by rw [ei]; exact vp_in_nI (n := i) (Nat.lt_of_lt_of_le hi hL.2.2) (by decide)) (by rw [ei]; exact aRc (i := i) hi hL) dX6_alert_43 ?_
      refine k_getN (ci := 0) (C := RX0) (T := TX0) (N := 13) (v := .int ((M (30 + i)) 10)) hx hb hown hG rfl kin_X0 (hw.rc hL hi) 10 (by decide) wFN_X6_184 rfl dX6_alert_44 ?_
      refine lv_istore_n (lv' := [(3, .int ((M (30 + i)) 10)), (0, .ref (ad 0)), (1, .int x), (2, .int w)]) hx hb dX6_alert_47 rfl hl (by decide) rfl (fun ls hl => ?_)
      have hml : c.maxLocals = ls.size := hml9.trans hl.1.symm
      refine lv_aload_n hx hb dX6_alert_48 rfl (lv_at hl 1 rfl) ?_
      refine k_get (ci := 6) (C := RX6) (T := TX6) (N := 8) (v := .ref (ad 9)) hx hb hown hG rfl kin_X6 hw.o 2 (by decide) wF_X6_23 rfl dX6_alert_49 ?_
      refine lv_iload_n hx hb dX6_alert_52 rfl (lv_at hl 2 rfl) ?_
      refine k_aldq (v := (ad (30 + i))) hx hb hG 3 rfl hw.a9 (by rw [ei]; exact vp_in_nI (n := i) (Nat.lt_of_lt_of_le hi hL.2.2) (by decide)) (by rw [ei]; exact aRc (i := i) hi hL) dX6_alert_53 ?_
      refine lv_iload_n hx hb dX6_alert_54 rfl (lv_at hl 3 rfl) ?_
      refine k_putN (ci := 0) (C := RX0) (T := TX0) (N := 13) (v := .int w) hx hb hown hG rfl kin_X0 tyX0 tyX0_ok nmX0 (hw.rc hL hi) hS (CA.of (LV.rc hi)) 10 (by decide) wFN_X6_184 rfl rfl rfl (Nat.le_of_ble_eq_true rfl) dX6_alert_55 (fun H1 locs hP1 z1 oq1 hS => ?_)
      have hq30i : va_P D vwCl [((ad (30 + i)), .inr (0, rcF (upd (M (30 + i)) 10 w) (ad (40 + i)) (ad (50 + i))))] H1 := hP1
      have hw : CW D cy ad ns nt nr (mset M (30 + i) (upd (M (30 + i)) 10 w)) V H1 := hw.setRc hA hL hi hq30i (fun q _ h => oq1 q h)
      refine lv_iload_n hx hb dX6_alert_58 rfl (lv_at hl 0 rfl) ?_
      exact kx (Nat.zero_le _) (Nat.zero_le _) (ke_ui hx hb hr hlk hS dX6_alert_59 ⟨by unfold kRng; rw [if_pos c_5, if_pos c_25], i, hi, ei, rfl, hw⟩)
    · exact k_throw ex_ia wStr_X6_182 hx hb hml hown hlk hlf hG hnx hX hZ dX6_alert_28 dX6_alert_31 dX6_alert_32 dX6_alert_34 dX6_alert_37 ⟨by decide, by decide, by decide, by decide⟩ ⟨by decide, by decide⟩ (Or.inr ⟨by unfold kRng; rw [if_pos c_5, if_neg c_25], rfl⟩)
  · exact k_throw ex_ib wStr_X6_143 hx hb hml hown hlk hlf hG hnx hX hZ dX6_alert_8 dX6_alert_11 dX6_alert_12 dX6_alert_14 dX6_alert_17 ⟨by decide, by decide, by decide, by decide⟩ ⟨by decide, by decide⟩ (Or.inl ⟨by unfold kRng; rw [if_neg c_5], rfl⟩)
set_option maxHeartbeats 4000000 in
set_option maxRecDepth 100000 in
theorem c_X6_spoof (l : Launch) (hlf : l.stackTraces = false) (D : va_G) (cy : Nat → ClassId) (ad : Nat → Nat) (ns nt nr : Nat) (hL : LB ns nt nr) (M : Nat → Nat → Int32) (V : SX) (hA : AI ad ns nt nr) (x w : Int32) : vx_Met l yX6_spoof [.code yX6_spoof cX6_spoof 4 (some .int)] ({ frames := 6, cells := 1, slots := 6, locals := 82 } : Room) (PX D cy [.ref (ad 0), .int x, .int w] (fun H => CW D cy ad ns nt nr M V H)) (UQi (CA ad ns nt nr) (fun r H => kRng nr x w (-30) 30 = 0 ∧ ∃ i, i < nr ∧ x = nI i ∧ r = M (30 + i) 11 ∧ CW D cy ad ns nt nr (mset M (30 + i) (upd (M (30 + i)) 11 w)) V H)) (XQ (errP (kRng nr x w (-30) 30) EIB EIA)) 1 6 (CA ad ns nt nr) := by
  refine k_bodyX (by decide +kernel) (Nat.le_of_ble_eq_true rfl) ?_
  intro p e s m below meth c ls hx hb hml hown hr hlk hmn hl hG hI hnx hX hZ
  have hml9 : c.maxLocals = 4 := hml.trans hl.1
  have hl : lv_has ls 4 [(0, .ref (ad 0)), (1, .int x), (2, .int w)] := hl
  have hS : va_S (CA ad ns nt nr) s.heap s.heap [] := va_S.rf
  have hw := hI
  refine lv_aload_n hx hb dX6_spoof_0 rfl (lv_at hl 0 rfl) ?_
  refine lv_iload_n hx hb dX6_spoof_1 rfl (lv_at hl 1 rfl) ?_
  refine kc_i (kr_V (As := [.int x]) (rest := []) hx hb hml hown hG (c_X6_isNoReceiver l D cy ad ns nt nr hL M V x) cf_X6_isNoReceiver wM_X6_140 hw.o rfl hw ⟨rfl, rfl, by decide, by decide⟩ rfl rfl (Nat.le_of_ble_eq_true rfl) ⟨Nat.le_of_ble_eq_true rfl, Nat.le_of_ble_eq_true rfl⟩ dX6_spoof_2) ?_
  refine lv_if_eq (tgt := 18) hx hb dX6_spoof_5 (by decide) (fun c_5 => ?_) (fun c_5 => ?_)
  · obtain ⟨i, hi, ei⟩ := pOut_f (Nat.le_trans hL.2.2 (by decide)) c_5
    refine lv_iload_n hx hb dX6_spoof_18 rfl (lv_at hl 2 rfl) ?_
    refine lv_bipush (v := (-30)) hx hb dX6_spoof_19 (by decide) ?_
    refine lv_bipush (v := 30) hx hb dX6_spoof_21 (by decide) ?_
    refine kc_i (kr_S (As := [.int w, .int (-30), .int 30]) (rest := []) hx hb hml hown hG (c_X6_isOutside l D cy w (-30) 30) cf_X6_isOutside wM_X6_34 trivial ⟨rfl, rfl, by decide, by decide⟩ rfl rfl (Nat.le_of_ble_eq_true rfl) ⟨Nat.le_of_ble_eq_true rfl, Nat.le_of_ble_eq_true rfl⟩ dX6_spoof_23) ?_
    refine lv_if_eq (tgt := 39) hx hb dX6_spoof_26 (by decide) (fun c_26 => ?_) (fun c_26 => ?_)
    · refine lv_aload_n hx hb dX6_spoof_39 rfl (lv_at hl 0 rfl) ?_
      refine k_get (ci := 6) (C := RX6) (T := TX6) (N := 8) (v := .ref (ad 9)) hx hb hown hG rfl kin_X6 hw.o 2 (by decide) wF_X6_23 rfl dX6_spoof_40 ?_
      refine lv_iload_n hx hb dX6_spoof_43 rfl (lv_at hl 1 rfl) ?_
      refine k_aldq (v := (ad (30 + i))) hx hb hG 3 rfl hw.a9 (by rw [ei]; exact vp_in_nI (n := i) (Nat.lt_of_lt_of_le hi hL.2.2) (by decide)) (by rw [ei]; exact aRc (i := i) hi hL) dX6_spoof_44 ?_
      refine k_getN (ci := 0) (C := RX0) (T := TX0) (N := 13) (v := .int ((M (30 + i)) 11)) hx hb hown hG rfl kin_X0 (hw.rc hL hi) 11 (by decide) wFN_X6_187 rfl dX6_spoof_45 ?_
      refine lv_istore_n (lv' := [(3, .int ((M (30 + i)) 11)), (0, .ref (ad 0)), (1, .int x), (2, .int w)]) hx hb dX6_spoof_48 rfl hl (by decide) rfl (fun ls hl => ?_)
      have hml : c.maxLocals = ls.size := hml9.trans hl.1.symm
      refine lv_aload_n hx hb dX6_spoof_49 rfl (lv_at hl 1 rfl) ?_
      refine k_get (ci := 6) (C := RX6) (T := TX6) (N := 8) (v := .ref (ad 9)) hx hb hown hG rfl kin_X6 hw.o 2 (by decide) wF_X6_23 rfl dX6_spoof_50 ?_
      refine lv_iload_n hx hb dX6_spoof_53 rfl (lv_at hl 2 rfl) ?_
      refine k_aldq (v := (ad (30 + i))) hx hb hG 3 rfl hw.a9 (by rw [ei]; exact vp_in_nI (n := i) (Nat.lt_of_lt_of_le hi hL.2.2) (by decide)) (by rw [ei]; exact aRc (i := i) hi hL) dX6_spoof_54 ?_
      refine lv_iload_n hx hb dX6_spoof_55 rfl (lv_at hl 3 rfl) ?_
      refine k_putN (ci := 0) (C := RX0) (T := TX0) (N := 13) (v := .int w) hx hb hown hG rfl kin_X0 tyX0 tyX0_ok nmX0 (hw.rc hL hi) hS (CA.of (LV.rc hi)) 11 (by decide) wFN_X6_187 rfl rfl rfl (Nat.le_of_ble_eq_true rfl) dX6_spoof_56 (fun H1 locs hP1 z1 oq1 hS => ?_)
      have hq30i : va_P D vwCl [((ad (30 + i)), .inr (0, rcF (upd (M (30 + i)) 11 w) (ad (40 + i)) (ad (50 + i))))] H1 := hP1
      have hw : CW D cy ad ns nt nr (mset M (30 + i) (upd (M (30 + i)) 11 w)) V H1 := hw.setRc hA hL hi hq30i (fun q _ h => oq1 q h)
      refine lv_iload_n hx hb dX6_spoof_59 rfl (lv_at hl 0 rfl) ?_
      exact kx (Nat.zero_le _) (Nat.zero_le _) (ke_ui hx hb hr hlk hS dX6_spoof_60 ⟨by unfold kRng; rw [if_pos c_5, if_pos c_26], i, hi, ei, rfl, hw⟩)
    · exact k_throw ex_ia wStr_X6_68 hx hb hml hown hlk hlf hG hnx hX hZ dX6_spoof_29 dX6_spoof_32 dX6_spoof_33 dX6_spoof_35 dX6_spoof_38 ⟨by decide, by decide, by decide, by decide⟩ ⟨by decide, by decide⟩ (Or.inr ⟨by unfold kRng; rw [if_pos c_5, if_neg c_26], rfl⟩)
  · exact k_throw ex_ib wStr_X6_143 hx hb hml hown hlk hlf hG hnx hX hZ dX6_spoof_8 dX6_spoof_11 dX6_spoof_12 dX6_spoof_14 dX6_spoof_17 ⟨by decide, by decide, by decide, by decide⟩ ⟨by decide, by decide⟩ (Or.inl ⟨by unfold kRng; rw [if_neg c_5], rfl⟩)
set_option maxHeartbeats 4000000 in
set_option maxRecDepth 100000 in
theorem c_X6_refer (l : Launch) (hlf : l.stackTraces = false) (D : va_G) (cy : Nat → ClassId) (ad : Nat → Nat) (ns nt nr : Nat) (hL : LB ns nt nr) (M : Nat → Nat → Int32) (V : SX) (hA : AI ad ns nt nr) (x y : Int32) : vx_Met l yX6_refer [.code yX6_refer cX6_refer 4 (some .int)] ({ frames := 6, cells := 1, slots := 6, locals := 82 } : Room) (PX D cy [.ref (ad 0), .int x, .int y] (fun H => CW D cy ad ns nt nr M V H)) (UQi (CA ad ns nt nr) (fun r H => kRefer nr x y = 0 ∧ ∃ i, i < nr ∧ x = nI i ∧ r = M (30 + i) 12 ∧ CW D cy ad ns nt nr (mset M (30 + i) (upd (M (30 + i)) 12 y)) V H)) (XQ (errP (kRefer nr x y) EIB EIA)) 1 6 (CA ad ns nt nr) := by
  refine k_bodyX (by decide +kernel) (Nat.le_of_ble_eq_true rfl) ?_
  intro p e s m below meth c ls hx hb hml hown hr hlk hmn hl hG hI hnx hX hZ
  have hml9 : c.maxLocals = 4 := hml.trans hl.1
  have hl : lv_has ls 4 [(0, .ref (ad 0)), (1, .int x), (2, .int y)] := hl
  have hS : va_S (CA ad ns nt nr) s.heap s.heap [] := va_S.rf
  have hw := hI
  refine lv_aload_n hx hb dX6_refer_0 rfl (lv_at hl 0 rfl) ?_
  refine lv_iload_n hx hb dX6_refer_1 rfl (lv_at hl 1 rfl) ?_
  refine kc_i (kr_V (As := [.int x]) (rest := []) hx hb hml hown hG (c_X6_isNoReceiver l D cy ad ns nt nr hL M V x) cf_X6_isNoReceiver wM_X6_140 hw.o rfl hw ⟨rfl, rfl, by decide, by decide⟩ rfl rfl (Nat.le_of_ble_eq_true rfl) ⟨Nat.le_of_ble_eq_true rfl, Nat.le_of_ble_eq_true rfl⟩ dX6_refer_2) ?_
  refine lv_if_ne (tgt := 21) hx hb dX6_refer_5 (by decide) (fun c_5 => ?_) (fun c_5 => ?_)
  · exact k_throw ex_ib wStr_X6_190 hx hb hml hown hlk hlf hG hnx hX hZ dX6_refer_21 dX6_refer_24 dX6_refer_25 dX6_refer_27 dX6_refer_30 ⟨by decide, by decide, by decide, by decide⟩ ⟨by decide, by decide⟩ (Or.inl ⟨by unfold kRefer; rw [if_neg c_5], rfl⟩)
  · obtain ⟨i, hi, ei⟩ := pOut_f (Nat.le_trans hL.2.2 (by decide)) c_5
    refine lv_iload_n hx hb dX6_refer_8 rfl (lv_at hl 2 rfl) ?_
    refine lv_iconst (v := (-1)) hx hb dX6_refer_9 (by decide) ?_
    refine lv_icmp_eq (tgt := 31) hx hb dX6_refer_10 (by decide) (fun c_10 => ?_) (fun c_10 => ?_)
    · refine lv_iload_n hx hb dX6_refer_31 rfl (lv_at hl 1 rfl) ?_
      refine lv_iload_n hx hb dX6_refer_32 rfl (lv_at hl 2 rfl) ?_
      refine lv_icmp_ne (tgt := 46) hx hb dX6_refer_33 (by decide) (fun c_33 => ?_) (fun c_33 => ?_)
      · refine lv_aload_n hx hb dX6_refer_46 rfl (lv_at hl 0 rfl) ?_
        refine k_get (ci := 6) (C := RX6) (T := TX6) (N := 8) (v := .ref (ad 9)) hx hb hown hG rfl kin_X6 hw.o 2 (by decide) wF_X6_23 rfl dX6_refer_47 ?_
        refine lv_iload_n hx hb dX6_refer_50 rfl (lv_at hl 1 rfl) ?_
        refine k_aldq (v := (ad (30 + i))) hx hb hG 3 rfl hw.a9 (by rw [ei]; exact vp_in_nI (n := i) (Nat.lt_of_lt_of_le hi hL.2.2) (by decide)) (by rw [ei]; exact aRc (i := i) hi hL) dX6_refer_51 ?_
        refine k_getN (ci := 0) (C := RX0) (T := TX0) (N := 13) (v := .int ((M (30 + i)) 12)) hx hb hown hG rfl kin_X0 (hw.rc hL hi) 12 (by decide) wFN_X6_194 rfl dX6_refer_52 ?_
        refine lv_istore_n (lv' := [(3, .int ((M (30 + i)) 12)), (0, .ref (ad 0)), (1, .int x), (2, .int y)]) hx hb dX6_refer_55 rfl hl (by decide) rfl (fun ls hl => ?_)
        have hml : c.maxLocals = ls.size := hml9.trans hl.1.symm
        refine lv_aload_n hx hb dX6_refer_56 rfl (lv_at hl 1 rfl) ?_
        refine k_get (ci := 6) (C := RX6) (T := TX6) (N := 8) (v := .ref (ad 9)) hx hb hown hG rfl kin_X6 hw.o 2 (by decide) wF_X6_23 rfl dX6_refer_57 ?_
        refine lv_iload_n hx hb dX6_refer_60 rfl (lv_at hl 2 rfl) ?_
        refine k_aldq (v := (ad (30 + i))) hx hb hG 3 rfl hw.a9 (by rw [ei]; exact vp_in_nI (n := i) (Nat.lt_of_lt_of_le hi hL.2.2) (by decide)) (by rw [ei]; exact aRc (i := i) hi hL) dX6_refer_61 ?_
        refine lv_iload_n hx hb dX6_refer_62 rfl (lv_at hl 3 rfl) ?_
        refine k_putN (ci := 0) (C := RX0) (T := TX0) (N := 13) (v := .int y) hx hb hown hG rfl kin_X0 tyX0 tyX0_ok nmX0 (hw.rc hL hi) hS (CA.of (LV.rc hi)) 12 (by decide) wFN_X6_194 rfl rfl rfl (Nat.le_of_ble_eq_true rfl) dX6_refer_63 (fun H1 locs hP1 z1 oq1 hS => ?_)
        have hq30i : va_P D vwCl [((ad (30 + i)), .inr (0, rcF (upd (M (30 + i)) 12 y) (ad (40 + i)) (ad (50 + i))))] H1 := hP1
        have hw : CW D cy ad ns nt nr (mset M (30 + i) (upd (M (30 + i)) 12 y)) V H1 := hw.setRc hA hL hi hq30i (fun q _ h => oq1 q h)
        refine lv_iload_n hx hb dX6_refer_66 rfl (lv_at hl 0 rfl) ?_
        exact kx (Nat.zero_le _) (Nat.zero_le _) (ke_ui hx hb hr hlk hS dX6_refer_67 ⟨by unfold kRefer; rw [if_pos c_5, if_pos c_10, if_neg c_33], i, hi, ei, rfl, hw⟩)
      · exact k_throw ex_ia wStr_X6_192 hx hb hml hown hlk hlf hG hnx hX hZ dX6_refer_36 dX6_refer_39 dX6_refer_40 dX6_refer_42 dX6_refer_45 ⟨by decide, by decide, by decide, by decide⟩ ⟨by decide, by decide⟩ (Or.inr ⟨by unfold kRefer; rw [if_pos c_5, if_pos c_10, if_pos c_33], rfl⟩)
    · refine lv_aload_n hx hb dX6_refer_13 rfl (lv_at hl 0 rfl) ?_
      refine lv_iload_n hx hb dX6_refer_14 rfl (lv_at hl 2 rfl) ?_
      refine kc_i (kr_V (As := [.int y]) (rest := []) hx hb hml hown hG (c_X6_isNoReceiver l D cy ad ns nt nr hL M V y) cf_X6_isNoReceiver wM_X6_140 hw.o rfl hw ⟨rfl, rfl, by decide, by decide⟩ rfl rfl (Nat.le_of_ble_eq_true rfl) ⟨Nat.le_of_ble_eq_true rfl, Nat.le_of_ble_eq_true rfl⟩ dX6_refer_15) ?_
      refine lv_if_eq (tgt := 31) hx hb dX6_refer_18 (by decide) (fun c_18 => ?_) (fun c_18 => ?_)
      · refine lv_iload_n hx hb dX6_refer_31 rfl (lv_at hl 1 rfl) ?_
        refine lv_iload_n hx hb dX6_refer_32 rfl (lv_at hl 2 rfl) ?_
        refine lv_icmp_ne (tgt := 46) hx hb dX6_refer_33 (by decide) (fun c_33 => ?_) (fun c_33 => ?_)
        · refine lv_aload_n hx hb dX6_refer_46 rfl (lv_at hl 0 rfl) ?_
          refine k_get (ci := 6) (C := RX6) (T := TX6) (N := 8) (v := .ref (ad 9)) hx hb hown hG rfl kin_X6 hw.o 2 (by decide) wF_X6_23 rfl dX6_refer_47 ?_
          refine lv_iload_n hx hb dX6_refer_50 rfl (lv_at hl 1 rfl) ?_
          refine k_aldq (v := (ad (30 + i))) hx hb hG 3 rfl hw.a9 (by rw [ei]; exact vp_in_nI (n := i) (Nat.lt_of_lt_of_le hi hL.2.2) (by decide)) (by rw [ei]; exact aRc (i := i) hi hL) dX6_refer_51 ?_
          refine k_getN (ci := 0) (C := RX0) (T := TX0) (N := 13) (v := .int ((M (30 + i)) 12)) hx hb hown hG rfl kin_X0 (hw.rc hL hi) 12 (by decide) wFN_X6_194 rfl dX6_refer_52 ?_
          refine lv_istore_n (lv' := [(3, .int ((M (30 + i)) 12)), (0, .ref (ad 0)), (1, .int x), (2, .int y)]) hx hb dX6_refer_55 rfl hl (by decide) rfl (fun ls hl => ?_)
          have hml : c.maxLocals = ls.size := hml9.trans hl.1.symm
          refine lv_aload_n hx hb dX6_refer_56 rfl (lv_at hl 1 rfl) ?_
          refine k_get (ci := 6) (C := RX6) (T := TX6) (N := 8) (v := .ref (ad 9)) hx hb hown hG rfl kin_X6 hw.o 2 (by decide) wF_X6_23 rfl dX6_refer_57 ?_
          refine lv_iload_n hx hb dX6_refer_60 rfl (lv_at hl 2 rfl) ?_
          refine k_aldq (v := (ad (30 + i))) hx hb hG 3 rfl hw.a9 (by rw [ei]; exact vp_in_nI (n := i) (Nat.lt_of_lt_of_le hi hL.2.2) (by decide)) (by rw [ei]; exact aRc (i := i) hi hL) dX6_refer_61 ?_
          refine lv_iload_n hx hb dX6_refer_62 rfl (lv_at hl 3 rfl) ?_
          refine k_putN (ci := 0) (C := RX0) (T := TX0) (N := 13) (v := .int y) hx hb hown hG rfl kin_X0 tyX0 tyX0_ok nmX0 (hw.rc hL hi) hS (CA.of (LV.rc hi)) 12 (by decide) wFN_X6_194 rfl rfl rfl (Nat.le_of_ble_eq_true rfl) dX6_refer_63 (fun H1 locs hP1 z1 oq1 hS => ?_)
          have hq30i : va_P D vwCl [((ad (30 + i)), .inr (0, rcF (upd (M (30 + i)) 12 y) (ad (40 + i)) (ad (50 + i))))] H1 := hP1
          have hw : CW D cy ad ns nt nr (mset M (30 + i) (upd (M (30 + i)) 12 y)) V H1 := hw.setRc hA hL hi hq30i (fun q _ h => oq1 q h)
          refine lv_iload_n hx hb dX6_refer_66 rfl (lv_at hl 0 rfl) ?_
          exact kx (Nat.zero_le _) (Nat.zero_le _) (ke_ui hx hb hr hlk hS dX6_refer_67 ⟨by unfold kRefer; rw [if_pos c_5, if_neg c_10, if_pos c_18, if_neg c_33], i, hi, ei, rfl, hw⟩)
        · exact k_throw ex_ia wStr_X6_192 hx hb hml hown hlk hlf hG hnx hX hZ dX6_refer_36 dX6_refer_39 dX6_refer_40 dX6_refer_42 dX6_refer_45 ⟨by decide, by decide, by decide, by decide⟩ ⟨by decide, by decide⟩ (Or.inr ⟨by unfold kRefer; rw [if_pos c_5, if_neg c_10, if_pos c_18, if_pos c_33], rfl⟩)
      · exact k_throw ex_ib wStr_X6_190 hx hb hml hown hlk hlf hG hnx hX hZ dX6_refer_21 dX6_refer_24 dX6_refer_25 dX6_refer_27 dX6_refer_30 ⟨by decide, by decide, by decide, by decide⟩ ⟨by decide, by decide⟩ (Or.inl ⟨by unfold kRefer; rw [if_pos c_5, if_neg c_10, if_neg c_18], rfl⟩)
set_option maxHeartbeats 4000000 in
set_option maxRecDepth 100000 in
theorem c_X6_pass (l : Launch) (hlf : l.stackTraces = false) (D : va_G) (cy : Nat → ClassId) (ad : Nat → Nat) (ns nt nr : Nat) (hL : LB ns nt nr) (M : Nat → Nat → Int32) (V : SX) (hA : AI ad ns nt nr) (n : Int32) : vx_Met l yX6_pass [.code yX6_pass cX6_pass 3 (some .int)] ({ frames := 6, cells := 1, slots := 6, locals := 106 } : Room) (PX D cy [.ref (ad 0), .int n] (fun H => CW D cy ad ns nt nr M V H)) (UQi (CA ad ns nt nr) (fun r H => kIn n 1 48 = 0 ∧ ∃ k, k ≤ 48 ∧ n = nI k ∧ r = pPassN M ns k 0 0 ∧ CW D cy ad ns nt nr (pPassN M ns k) V H)) (XQ (errP (kIn n 1 48) EIA EIA)) 1 6 (CA ad ns nt nr) := by
  refine k_bodyX (by decide +kernel) (Nat.le_of_ble_eq_true rfl) ?_
  intro p e s m below meth c ls hx hb hml hown hr hlk hmn hl hG hI hnx hX hZ
  have hml9 : c.maxLocals = 3 := hml.trans hl.1
  have hl : lv_has ls 3 [(0, .ref (ad 0)), (1, .int n)] := hl
  have hS : va_S (CA ad ns nt nr) s.heap s.heap [] := va_S.rf
  have hw := hI
  refine lv_iload_n hx hb dX6_pass_0 rfl (lv_at hl 1 rfl) ?_
  refine lv_iconst (v := 1) hx hb dX6_pass_1 (by decide) ?_
  refine lv_bipush (v := 48) hx hb dX6_pass_2 (by decide) ?_
  refine kc_i (kr_S (As := [.int n, .int 1, .int 48]) (rest := []) hx hb hml hown hG (c_X6_isOutside l D cy n 1 48) cf_X6_isOutside wM_X6_34 trivial ⟨rfl, rfl, by decide, by decide⟩ rfl rfl (Nat.le_of_ble_eq_true rfl) ⟨Nat.le_of_ble_eq_true rfl, Nat.le_of_ble_eq_true rfl⟩ dX6_pass_4) ?_
  refine lv_if_eq (tgt := 20) hx hb dX6_pass_7 (by decide) (fun c_7 => ?_) (fun c_7 => ?_)
  · obtain ⟨k, hk8, ek⟩ := pIn48 c_7
    refine lv_iconst (v := 0) hx hb dX6_pass_20 (by decide) ?_
    refine lv_istore_n (lv' := [(2, .int 0), (0, .ref (ad 0)), (1, .int n)]) hx hb dX6_pass_21 rfl hl (by decide) rfl (fun ls hl => ?_)
    have hml : c.maxLocals = ls.size := hml9.trans hl.1.symm
    have lp22_1 : ∀ (n9 : Nat) (j : Nat) (H : Heap) (locs : List Loc), k + 1 - j ≤ n9 → j ≤ k → CW D cy ad ns nt nr (pPassN M ns j) V H → va_S (CA ad ns nt nr) s.heap H locs →  ∀ ls : Array Slot, lv_has ls 3 [(2, .int (nI j)), (0, .ref (ad 0)), (1, .int n)] → W p l e ({ frames := 6, cells := 1, slots := 6, locals := 106 } : Room) s m ([.ref (ad 0), .int n] : List Value).toArray below meth c H locs 0 0 (vx_MQ below (UQi (CA ad ns nt nr) (fun r H => kIn n 1 48 = 0 ∧ ∃ k, k ≤ 48 ∧ n = nI k ∧ r = pPassN M ns k 0 0 ∧ CW D cy ad ns nt nr (pPassN M ns k) V H)) (XQ (errP (kIn n 1 48) EIA EIA)) ([.ref (ad 0), .int n] : List Value).toArray s 1 6 (CA ad ns nt nr)) (F0 m 22 ls []) := by
      intro n9
      induction n9 with
      | zero =>
        intro j H locs h9
        intro hj; exact absurd h9 (by omega)
      | succ n9 ih9 =>
        intro j H locs hn9 hj hw hS ls hl
        have hml : c.maxLocals = ls.size := hml9.trans hl.1.symm
        refine lv_iload_n hx hb dX6_pass_22 rfl (lv_at hl 0 rfl) ?_
        refine lv_iload_n hx hb dX6_pass_23 rfl (lv_at hl 2 rfl) ?_
        refine lv_icmp_ge (tgt := 37) hx hb dX6_pass_24 (by decide) (fun c_24 => ?_) (fun c_24 => ?_)
        · have ejk : j = k := Nat.le_antisymm hj ((nI_leI (by omega) (by omega)).mp (by rw [← ek]; exact c_24))
          refine lv_aload_n hx hb dX6_pass_37 rfl (lv_at hl 1 rfl) ?_
          refine k_get (ci := 6) (C := RX6) (T := TX6) (N := 8) (v := .int ((pPassN M ns j) 0 0)) hx hb hown hG rfl kin_X6 hw.o 7 (by decide) wF_X6_114 rfl dX6_pass_38 ?_
          exact kx (Nat.zero_le _) (Nat.zero_le _) (ke_ui hx hb hr hlk hS dX6_pass_41 ⟨by unfold kIn; rw [if_pos c_7], k, hk8, ek, by rw [ejk], by rw [← ejk]; exact hw⟩)
        · have hltj : j < k := by
            rcases Nat.lt_or_ge j k with q | q
            · exact q
            · exact absurd (by rw [ek]; exact nI_le q (by omega)) c_24
          refine lv_aload_n hx hb dX6_pass_27 rfl (lv_at hl 1 rfl) ?_
          refine kc_uv (kr_V (As := []) (rest := []) hx hb hml hown hG (c_X6_passOne l D cy ad ns nt nr hL (pPassN M ns j) V hA) cf_X6_passOne wM_X6_199 hw.o rfl hw ⟨rfl, rfl, by decide, by decide⟩ rfl rfl (Nat.le_of_ble_eq_true rfl) ⟨Nat.le_of_ble_eq_true rfl, Nat.le_of_ble_eq_true rfl⟩ dX6_pass_28) hS (fun _ h => h) (fun H1 locs hp1 z1 oq1 hS => ?_)
          have hw : CW D cy ad ns nt nr (pPass1 (pPassN M ns j) ns) V H1 := hp1
          refine lv_iinc (v := (nI (j + 1))) (lv' := [(2, .int (nI (j + 1))), (0, .ref (ad 0)), (1, .int n)]) hx hb dX6_pass_31 hl (k := 0) rfl ((nI_succ j).symm) (by decide) rfl (fun ls hl => ?_)
          have hml : c.maxLocals = ls.size := hml9.trans hl.1.symm
          refine lv_goto (tgt := 22) hx hb dX6_pass_34 (by decide) ?_
          exact ih9 (j + 1) _ _ (by omega) hltj (by rw [pPassN_s]; exact hw) hS ls (lv_sub hl [0, 1, 2] rfl)
    exact lp22_1 (k + 1) 0 _ _ (Nat.le_refl _) (Nat.zero_le _) (by rw [pPassN_0]; exact hw) hS ls (lv_sub hl [0, 1, 2] rfl)
  · exact k_throw ex_ia wStr_X6_197 hx hb hml hown hlk hlf hG hnx hX hZ dX6_pass_10 dX6_pass_13 dX6_pass_14 dX6_pass_16 dX6_pass_19 ⟨by decide, by decide, by decide, by decide⟩ ⟨by decide, by decide⟩ (Or.inl ⟨by unfold kIn; rw [if_neg c_7], rfl⟩)
set_option maxHeartbeats 4000000 in
set_option maxRecDepth 100000 in
theorem c_X6_observe (l : Launch) (hlf : l.stackTraces = false) (D : va_G) (cy : Nat → ClassId) (ad : Nat → Nat) (ns nt nr : Nat) (hL : LB ns nt nr) (M : Nat → Nat → Int32) (V : SX) (hA : AI ad ns nt nr) (x : Int32) (hne : ∀ i, i < nr → M (30 + i) 12 ≠ nI i) : vx_Met l yX6_observe [.code yX6_observe cX6_observe 4 (some .int)] ({ frames := 6, cells := 1, slots := 6, locals := 119 } : Room) (PX D cy [.ref (ad 0), .int x] (fun H => CW D cy ad ns nt nr M V H)) (UQi (CA ad ns nt nr) (fun r H => kObs M nr x = 0 ∧ ∃ i, i < nr ∧ x = nI i ∧ r = obT M ns nr i V 10 ∧ ∃ V2 : SX, CW D cy ad ns nt nr (mset (obM M ns nr i) (50 + i) (obT M ns nr i V)) V2 H)) (XQ (errP (kObs M nr x) EIB EIS)) 1 6 (CA ad ns nt nr) := by
  refine k_bodyX (by decide +kernel) (Nat.le_of_ble_eq_true rfl) ?_
  intro p e s m below meth c ls hx hb hml hown hr hlk hmn hl hG hI hnx hX hZ
  have hml9 : c.maxLocals = 4 := hml.trans hl.1
  have hl : lv_has ls 4 [(0, .ref (ad 0)), (1, .int x)] := hl
  have hS : va_S (CA ad ns nt nr) s.heap s.heap [] := va_S.rf
  have hw := hI
  refine lv_aload_n hx hb dX6_observe_0 rfl (lv_at hl 0 rfl) ?_
  refine lv_iload_n hx hb dX6_observe_1 rfl (lv_at hl 1 rfl) ?_
  refine kc_i (kr_V (As := [.int x]) (rest := []) hx hb hml hown hG (c_X6_isNoReceiver l D cy ad ns nt nr hL M V x) cf_X6_isNoReceiver wM_X6_140 hw.o rfl hw ⟨rfl, rfl, by decide, by decide⟩ rfl rfl (Nat.le_of_ble_eq_true rfl) ⟨Nat.le_of_ble_eq_true rfl, Nat.le_of_ble_eq_true rfl⟩ dX6_observe_2) ?_
  refine lv_if_eq (tgt := 18) hx hb dX6_observe_5 (by decide) (fun c_5 => ?_) (fun c_5 => ?_)
  · obtain ⟨i, hi, ei⟩ := pOut_f (Nat.le_trans hL.2.2 (by decide)) c_5
    refine lv_aload_n hx hb dX6_observe_18 rfl (lv_at hl 0 rfl) ?_
    refine k_get (ci := 6) (C := RX6) (T := TX6) (N := 8) (v := .ref (ad 9)) hx hb hown hG rfl kin_X6 hw.o 2 (by decide) wF_X6_23 rfl dX6_observe_19 ?_
    refine lv_iload_n hx hb dX6_observe_22 rfl (lv_at hl 1 rfl) ?_
    refine k_aldq (v := (ad (30 + i))) hx hb hG 3 rfl hw.a9 (by rw [ei]; exact vp_in_nI (n := i) (Nat.lt_of_lt_of_le hi hL.2.2) (by decide)) (by rw [ei]; exact aRc (i := i) hi hL) dX6_observe_23 ?_
    refine lv_astore_n (lv' := [(2, .ref (ad (30 + i))), (0, .ref (ad 0)), (1, .int x)]) hx hb dX6_observe_24 rfl hl (by decide) rfl (fun ls hl => ?_)
    have hml : c.maxLocals = ls.size := hml9.trans hl.1.symm
    refine lv_aload_n hx hb dX6_observe_25 rfl (lv_at hl 0 rfl) ?_
    refine k_getN (ci := 0) (C := RX0) (T := TX0) (N := 13) (v := .ref (ad (50 + i))) hx hb hown hG rfl kin_X0 (hw.rc hL hi) 3 (by decide) wFN_X6_202 rfl dX6_observe_26 ?_
    refine lv_astore_n (lv' := [(3, .ref (ad (50 + i))), (2, .ref (ad (30 + i))), (0, .ref (ad 0)), (1, .int x)]) hx hb dX6_observe_29 rfl hl (by decide) rfl (fun ls hl => ?_)
    have hml : c.maxLocals = ls.size := hml9.trans hl.1.symm
    refine lv_aload_n hx hb dX6_observe_30 rfl (lv_at hl 0 rfl) ?_
    refine lv_aload_n hx hb dX6_observe_31 rfl (lv_at hl 2 rfl) ?_
    refine k_get (ci := 6) (C := RX6) (T := TX6) (N := 8) (v := .int (M 0 0)) hx hb hown hG rfl kin_X6 hw.o 7 (by decide) wF_X6_114 rfl dX6_observe_32 ?_
    refine kc_i (kr_VN (As := [.int (M 0 0)]) (rest := []) hx hb hml hown hG (c_X5_hasObservedIn l D cy (ad (50 + i)) (M (50 + i)) (M 0 0)) cf_X5_hasObservedIn wMN_X6_206 (hw.tk hL hi) rfl (hw.tk hL hi) ⟨rfl, rfl, by decide, by decide⟩ rfl rfl (Nat.le_of_ble_eq_true rfl) ⟨Nat.le_of_ble_eq_true rfl, Nat.le_of_ble_eq_true rfl⟩ dX6_observe_35) ?_
    refine lv_if_eq (tgt := 51) hx hb dX6_observe_38 (by decide) (fun c_38 => ?_) (fun c_38 => ?_)
    · refine lv_aload_n hx hb dX6_observe_51 rfl (lv_at hl 2 rfl) ?_
      refine lv_aload_n hx hb dX6_observe_52 rfl (lv_at hl 1 rfl) ?_
      refine kc_uv (kr_V (As := [.ref (ad (30 + i))]) (rest := []) hx hb hml hown hG (c_X6_measure l D cy ad ns nt nr hL M V hA i hi) cf_X6_measure wM_X6_213 hw.o rfl hw ⟨rfl, rfl, by decide, by decide⟩ rfl rfl (Nat.le_of_ble_eq_true rfl) ⟨Nat.le_of_ble_eq_true rfl, Nat.le_of_ble_eq_true rfl⟩ dX6_observe_53) hS (fun _ h => h) (fun H1 locs hp1 z1 oq1 hS => ?_)
      have hw : CW D cy ad ns nt nr (pMs M i ns) V H1 := hp1
      refine lv_aload_n hx hb dX6_observe_56 rfl (lv_at hl 2 rfl) ?_
      refine lv_aload_n hx hb dX6_observe_57 rfl (lv_at hl 1 rfl) ?_
      refine kc_uv (kr_V (As := [.ref (ad (30 + i))]) (rest := []) hx hb hml hown hG (c_X6_gatherMeasured l D cy ad ns nt nr hL (pMs M i ns) V hA i hi (by unfold pMs; rw [pSgs_lo _ _ _ _ (by have := hL.2.2; omega)]; exact hne i hi)) cf_X6_gatherMeasured wM_X6_217 hw.o rfl hw ⟨rfl, rfl, by decide, by decide⟩ rfl rfl (Nat.le_of_ble_eq_true rfl) ⟨Nat.le_of_ble_eq_true rfl, Nat.le_of_ble_eq_true rfl⟩ dX6_observe_58) hS (fun _ h => h) (fun H1 locs hp1 z1 oq1 hS => ?_)
      have hw : CW D cy ad ns nt nr (pGM (pMs M i ns) nr i ns) (upd V.1 5 (nI (pGMl (pMs M i ns) nr i V.2.2.2 ns).1), V.2.1, V.2.2.1, (pGMl (pMs M i ns) nr i V.2.2.2 ns).2) H1 := hp1
      refine lv_aload_n hx hb dX6_observe_61 rfl (lv_at hl 2 rfl) ?_
      refine lv_aload_n hx hb dX6_observe_62 rfl (lv_at hl 1 rfl) ?_
      refine kc_uv (kr_V (As := [.ref (ad (30 + i))]) (rest := []) hx hb hml hown hG (c_X6_offerCorrections l D cy ad ns nt nr hL (pGM (pMs M i ns) nr i ns) (upd V.1 5 (nI (pGMl (pMs M i ns) nr i V.2.2.2 ns).1), V.2.1, V.2.2.1, (pGMl (pMs M i ns) nr i V.2.2.2 ns).2) hA i hi) cf_X6_offerCorrections wM_X6_220 hw.o rfl hw ⟨rfl, rfl, by decide, by decide⟩ rfl rfl (Nat.le_of_ble_eq_true rfl) ⟨Nat.le_of_ble_eq_true rfl, Nat.le_of_ble_eq_true rfl⟩ dX6_observe_63) hS (fun _ h => h) (fun H1 locs hp1 z1 oq1 hS => ?_)
      have hw : CW D cy ad ns nt nr (pOf (pGM (pMs M i ns) nr i ns) i ns) (upd V.1 5 (nI (pGMl (pMs M i ns) nr i V.2.2.2 ns).1), V.2.1, V.2.2.1, (pGMl (pMs M i ns) nr i V.2.2.2 ns).2) H1 := hp1
      refine lv_aload_n hx hb dX6_observe_66 rfl (lv_at hl 2 rfl) ?_
      refine k_get (ci := 6) (C := RX6) (T := TX6) (N := 8) (v := .ref (ad 1)) hx hb hown hG rfl kin_X6 hw.o 3 (by decide) wF_X6_30 rfl dX6_observe_67 ?_
      refine kc_uv (kr_VN (As := []) (rest := []) hx hb hml hown hG (c_X2_solve l D cy (ad 1) (fun i => ad (2 + i)) hA.sv V.1 V.2.1 (pGMl (pMs M i ns) nr i V.2.2.2 ns).1 (Nat.le_trans (pGMl_le (pMs M i ns) nr i V.2.2.2 ns) hL.1) (vB V) (pGMl (pMs M i ns) nr i V.2.2.2 ns).2 (pGMl (pMs M i ns) nr i V.2.2.2 ns).2 (fun _ _ => rfl)) cf_X2_solve wMN_X6_223 hw.sv.1 rfl (by unfold vB; rw [zN_eq]; exact hw.sv) ⟨rfl, rfl, by decide, by decide⟩ rfl rfl (Nat.le_of_ble_eq_true rfl) ⟨Nat.le_of_ble_eq_true rfl, Nat.le_of_ble_eq_true rfl⟩ dX6_observe_70) hS CA.sv (fun H1 locs hp1 z1 oq1 hS => ?_)
      obtain ⟨G, hG4, B2, hsv⟩ := hp1
      have hw : CW D cy ad ns nt nr (pOf (pGM (pMs M i ns) nr i ns) i ns) (zB (zSolve (pGMl (pMs M i ns) nr i V.2.2.2 ns).2 V.1 (pGMl (pMs M i ns) nr i V.2.2.2 ns).1 (vB V)) B2, lSolve (pGMl (pMs M i ns) nr i V.2.2.2 ns).2 V.1 V.2.1 (pGMl (pMs M i ns) nr i V.2.2.2 ns).1 (vB V), B2.2.2.2, G) H1 := hw.setSv (V' := (zB (zSolve (pGMl (pMs M i ns) nr i V.2.2.2 ns).2 V.1 (pGMl (pMs M i ns) nr i V.2.2.2 ns).1 (vB V)) B2, lSolve (pGMl (pMs M i ns) nr i V.2.2.2 ns).2 V.1 V.2.1 (pGMl (pMs M i ns) nr i V.2.2.2 ns).1 (vB V), B2.2.2.2, G)) hA hsv oq1
      refine lv_aload_n hx hb dX6_observe_73 rfl (lv_at hl 0 rfl) ?_
      refine lv_aload_n hx hb dX6_observe_74 rfl (lv_at hl 2 rfl) ?_
      refine k_get (ci := 6) (C := RX6) (T := TX6) (N := 8) (v := .int ((pOf (pGM (pMs M i ns) nr i ns) i ns) 0 0)) hx hb hown hG rfl kin_X6 hw.o 7 (by decide) wF_X6_114 rfl dX6_observe_75 ?_
      refine lv_aload_n hx hb dX6_observe_78 rfl (lv_at hl 2 rfl) ?_
      refine k_get (ci := 6) (C := RX6) (T := TX6) (N := 8) (v := .ref (ad 1)) hx hb hown hG rfl kin_X6 hw.o 3 (by decide) wF_X6_30 rfl dX6_observe_79 ?_
      refine lv_aload_n hx hb dX6_observe_82 rfl (lv_at hl 2 rfl) ?_
      refine lv_aload_n hx hb dX6_observe_83 rfl (lv_at hl 1 rfl) ?_
      refine lv_iconst (v := 1) hx hb dX6_observe_84 (by decide) ?_
      refine kc_i (kr_V (As := [.ref (ad (30 + i)), .int 1]) (rest := [.ref (ad 1), .int ((pOf (pGM (pMs M i ns) nr i ns) i ns) 0 0), .ref (ad (50 + i))]) hx hb hml hown hG (c_X6_alarmOf l D cy ad ns nt nr hL (pOf (pGM (pMs M i ns) nr i ns) i ns) (zB (zSolve (pGMl (pMs M i ns) nr i V.2.2.2 ns).2 V.1 (pGMl (pMs M i ns) nr i V.2.2.2 ns).1 (vB V)) B2, lSolve (pGMl (pMs M i ns) nr i V.2.2.2 ns).2 V.1 V.2.1 (pGMl (pMs M i ns) nr i V.2.2.2 ns).1 (vB V), B2.2.2.2, G) i hi 1) cf_X6_alarmOf wM_X6_226 hw.o rfl hw ⟨rfl, rfl, by decide, by decide⟩ rfl rfl (Nat.le_of_ble_eq_true rfl) ⟨Nat.le_of_ble_eq_true rfl, Nat.le_of_ble_eq_true rfl⟩ dX6_observe_85) ?_
      refine lv_aload_n hx hb dX6_observe_88 rfl (lv_at hl 1 rfl) ?_
      refine k_getN (ci := 0) (C := RX0) (T := TX0) (N := 13) (v := .int (((pOf (pGM (pMs M i ns) nr i ns) i ns) (30 + i)) 4)) hx hb hown hG rfl kin_X0 (hw.rc hL hi) 4 (by decide) wFN_X6_147 rfl dX6_observe_89 ?_
      refine lv_aload_n hx hb dX6_observe_92 rfl (lv_at hl 1 rfl) ?_
      refine k_getN (ci := 0) (C := RX0) (T := TX0) (N := 13) (v := .int (((pOf (pGM (pMs M i ns) nr i ns) i ns) (30 + i)) 5)) hx hb hown hG rfl kin_X0 (hw.rc hL hi) 5 (by decide) wFN_X6_150 rfl dX6_observe_93 ?_
      refine kc_uv (kr_VN (As := [.int ((pOf (pGM (pMs M i ns) nr i ns) i ns) 0 0), .ref (ad 1), .int (pAlarm (zB (zSolve (pGMl (pMs M i ns) nr i V.2.2.2 ns).2 V.1 (pGMl (pMs M i ns) nr i V.2.2.2 ns).1 (vB V)) B2, lSolve (pGMl (pMs M i ns) nr i V.2.2.2 ns).2 V.1 V.2.1 (pGMl (pMs M i ns) nr i V.2.2.2 ns).1 (vB V), B2.2.2.2, G).1 (zB (zSolve (pGMl (pMs M i ns) nr i V.2.2.2 ns).2 V.1 (pGMl (pMs M i ns) nr i V.2.2.2 ns).1 (vB V)) B2, lSolve (pGMl (pMs M i ns) nr i V.2.2.2 ns).2 V.1 V.2.1 (pGMl (pMs M i ns) nr i V.2.2.2 ns).1 (vB V), B2.2.2.2, G).2.1 ((pOf (pGM (pMs M i ns) nr i ns) i ns) (30 + i)) ((pOf (pGM (pMs M i ns) nr i ns) i ns) (50 + i)) 1 ((pOf (pGM (pMs M i ns) nr i ns) i ns) 0 0)), .int (((pOf (pGM (pMs M i ns) nr i ns) i ns) (30 + i)) 4), .int (((pOf (pGM (pMs M i ns) nr i ns) i ns) (30 + i)) 5)]) (rest := []) hx hb hml hown hG (c_X5_keepAll l D cy (ad (50 + i)) ((pOf (pGM (pMs M i ns) nr i ns) i ns) (50 + i)) (ad 1) (zB (zSolve (pGMl (pMs M i ns) nr i V.2.2.2 ns).2 V.1 (pGMl (pMs M i ns) nr i V.2.2.2 ns).1 (vB V)) B2, lSolve (pGMl (pMs M i ns) nr i V.2.2.2 ns).2 V.1 V.2.1 (pGMl (pMs M i ns) nr i V.2.2.2 ns).1 (vB V), B2.2.2.2, G).1 (zB (zSolve (pGMl (pMs M i ns) nr i V.2.2.2 ns).2 V.1 (pGMl (pMs M i ns) nr i V.2.2.2 ns).1 (vB V)) B2, lSolve (pGMl (pMs M i ns) nr i V.2.2.2 ns).2 V.1 V.2.1 (pGMl (pMs M i ns) nr i V.2.2.2 ns).1 (vB V), B2.2.2.2, G).2.1 (zB (zSolve (pGMl (pMs M i ns) nr i V.2.2.2 ns).2 V.1 (pGMl (pMs M i ns) nr i V.2.2.2 ns).1 (vB V)) B2, lSolve (pGMl (pMs M i ns) nr i V.2.2.2 ns).2 V.1 V.2.1 (pGMl (pMs M i ns) nr i V.2.2.2 ns).1 (vB V), B2.2.2.2, G).2.2.1 (fun i => ad (2 + i)) (fun q => absurd (hA _ _ (Or.inl (by omega)) (LV.tk hi) q) (by omega)) ((pOf (pGM (pMs M i ns) nr i ns) i ns) 0 0) (pAlarm (zB (zSolve (pGMl (pMs M i ns) nr i V.2.2.2 ns).2 V.1 (pGMl (pMs M i ns) nr i V.2.2.2 ns).1 (vB V)) B2, lSolve (pGMl (pMs M i ns) nr i V.2.2.2 ns).2 V.1 V.2.1 (pGMl (pMs M i ns) nr i V.2.2.2 ns).1 (vB V), B2.2.2.2, G).1 (zB (zSolve (pGMl (pMs M i ns) nr i V.2.2.2 ns).2 V.1 (pGMl (pMs M i ns) nr i V.2.2.2 ns).1 (vB V)) B2, lSolve (pGMl (pMs M i ns) nr i V.2.2.2 ns).2 V.1 V.2.1 (pGMl (pMs M i ns) nr i V.2.2.2 ns).1 (vB V), B2.2.2.2, G).2.1 ((pOf (pGM (pMs M i ns) nr i ns) i ns) (30 + i)) ((pOf (pGM (pMs M i ns) nr i ns) i ns) (50 + i)) 1 ((pOf (pGM (pMs M i ns) nr i ns) i ns) 0 0)) (((pOf (pGM (pMs M i ns) nr i ns) i ns) (30 + i)) 4) (((pOf (pGM (pMs M i ns) nr i ns) i ns) (30 + i)) 5)) cf_X5_keepAll wMN_X6_230 (hw.tk hL hi) rfl ⟨(hw.tk hL hi), hw.sv.1⟩ ⟨rfl, rfl, by decide, by decide⟩ rfl rfl (Nat.le_of_ble_eq_true rfl) ⟨Nat.le_of_ble_eq_true rfl, Nat.le_of_ble_eq_true rfl⟩ dX6_observe_96) hS (fun q h => h ▸ CA.of (LV.tk hi)) (fun H1 locs hp1 z1 oq1 hS => ?_)
      have hq50i : va_P D vwCl [((ad (50 + i)), .inr (5, trF (tKA ((pOf (pGM (pMs M i ns) nr i ns) i ns) (50 + i)) ((pOf (pGM (pMs M i ns) nr i ns) i ns) 0 0) (zB (zSolve (pGMl (pMs M i ns) nr i V.2.2.2 ns).2 V.1 (pGMl (pMs M i ns) nr i V.2.2.2 ns).1 (vB V)) B2, lSolve (pGMl (pMs M i ns) nr i V.2.2.2 ns).2 V.1 V.2.1 (pGMl (pMs M i ns) nr i V.2.2.2 ns).1 (vB V), B2.2.2.2, G).1 (zB (zSolve (pGMl (pMs M i ns) nr i V.2.2.2 ns).2 V.1 (pGMl (pMs M i ns) nr i V.2.2.2 ns).1 (vB V)) B2, lSolve (pGMl (pMs M i ns) nr i V.2.2.2 ns).2 V.1 V.2.1 (pGMl (pMs M i ns) nr i V.2.2.2 ns).1 (vB V), B2.2.2.2, G).2.1 (pAlarm (zB (zSolve (pGMl (pMs M i ns) nr i V.2.2.2 ns).2 V.1 (pGMl (pMs M i ns) nr i V.2.2.2 ns).1 (vB V)) B2, lSolve (pGMl (pMs M i ns) nr i V.2.2.2 ns).2 V.1 V.2.1 (pGMl (pMs M i ns) nr i V.2.2.2 ns).1 (vB V), B2.2.2.2, G).1 (zB (zSolve (pGMl (pMs M i ns) nr i V.2.2.2 ns).2 V.1 (pGMl (pMs M i ns) nr i V.2.2.2 ns).1 (vB V)) B2, lSolve (pGMl (pMs M i ns) nr i V.2.2.2 ns).2 V.1 V.2.1 (pGMl (pMs M i ns) nr i V.2.2.2 ns).1 (vB V), B2.2.2.2, G).2.1 ((pOf (pGM (pMs M i ns) nr i ns) i ns) (30 + i)) ((pOf (pGM (pMs M i ns) nr i ns) i ns) (50 + i)) 1 ((pOf (pGM (pMs M i ns) nr i ns) i ns) 0 0)) (((pOf (pGM (pMs M i ns) nr i ns) i ns) (30 + i)) 4) (((pOf (pGM (pMs M i ns) nr i ns) i ns) (30 + i)) 5))))] H1 := hp1
      have hw : CW D cy ad ns nt nr (mset (pOf (pGM (pMs M i ns) nr i ns) i ns) (50 + i) (tKA ((pOf (pGM (pMs M i ns) nr i ns) i ns) (50 + i)) ((pOf (pGM (pMs M i ns) nr i ns) i ns) 0 0) (zB (zSolve (pGMl (pMs M i ns) nr i V.2.2.2 ns).2 V.1 (pGMl (pMs M i ns) nr i V.2.2.2 ns).1 (vB V)) B2, lSolve (pGMl (pMs M i ns) nr i V.2.2.2 ns).2 V.1 V.2.1 (pGMl (pMs M i ns) nr i V.2.2.2 ns).1 (vB V), B2.2.2.2, G).1 (zB (zSolve (pGMl (pMs M i ns) nr i V.2.2.2 ns).2 V.1 (pGMl (pMs M i ns) nr i V.2.2.2 ns).1 (vB V)) B2, lSolve (pGMl (pMs M i ns) nr i V.2.2.2 ns).2 V.1 V.2.1 (pGMl (pMs M i ns) nr i V.2.2.2 ns).1 (vB V), B2.2.2.2, G).2.1 (pAlarm (zB (zSolve (pGMl (pMs M i ns) nr i V.2.2.2 ns).2 V.1 (pGMl (pMs M i ns) nr i V.2.2.2 ns).1 (vB V)) B2, lSolve (pGMl (pMs M i ns) nr i V.2.2.2 ns).2 V.1 V.2.1 (pGMl (pMs M i ns) nr i V.2.2.2 ns).1 (vB V), B2.2.2.2, G).1 (zB (zSolve (pGMl (pMs M i ns) nr i V.2.2.2 ns).2 V.1 (pGMl (pMs M i ns) nr i V.2.2.2 ns).1 (vB V)) B2, lSolve (pGMl (pMs M i ns) nr i V.2.2.2 ns).2 V.1 V.2.1 (pGMl (pMs M i ns) nr i V.2.2.2 ns).1 (vB V), B2.2.2.2, G).2.1 ((pOf (pGM (pMs M i ns) nr i ns) i ns) (30 + i)) ((pOf (pGM (pMs M i ns) nr i ns) i ns) (50 + i)) 1 ((pOf (pGM (pMs M i ns) nr i ns) i ns) 0 0)) (((pOf (pGM (pMs M i ns) nr i ns) i ns) (30 + i)) 4) (((pOf (pGM (pMs M i ns) nr i ns) i ns) (30 + i)) 5))) (zB (zSolve (pGMl (pMs M i ns) nr i V.2.2.2 ns).2 V.1 (pGMl (pMs M i ns) nr i V.2.2.2 ns).1 (vB V)) B2, lSolve (pGMl (pMs M i ns) nr i V.2.2.2 ns).2 V.1 V.2.1 (pGMl (pMs M i ns) nr i V.2.2.2 ns).1 (vB V), B2.2.2.2, G) H1 := hw.setTk hA hL hi hq50i oq1
      refine lv_aload_n hx hb dX6_observe_99 rfl (lv_at hl 0 rfl) ?_
      refine k_getN (ci := 5) (C := RX5) (T := TX5) (N := 13) (v := .int ((tKA ((pOf (pGM (pMs M i ns) nr i ns) i ns) (50 + i)) ((pOf (pGM (pMs M i ns) nr i ns) i ns) 0 0) (zB (zSolve (pGMl (pMs M i ns) nr i V.2.2.2 ns).2 V.1 (pGMl (pMs M i ns) nr i V.2.2.2 ns).1 (vB V)) B2, lSolve (pGMl (pMs M i ns) nr i V.2.2.2 ns).2 V.1 V.2.1 (pGMl (pMs M i ns) nr i V.2.2.2 ns).1 (vB V), B2.2.2.2, G).1 (zB (zSolve (pGMl (pMs M i ns) nr i V.2.2.2 ns).2 V.1 (pGMl (pMs M i ns) nr i V.2.2.2 ns).1 (vB V)) B2, lSolve (pGMl (pMs M i ns) nr i V.2.2.2 ns).2 V.1 V.2.1 (pGMl (pMs M i ns) nr i V.2.2.2 ns).1 (vB V), B2.2.2.2, G).2.1 (pAlarm (zB (zSolve (pGMl (pMs M i ns) nr i V.2.2.2 ns).2 V.1 (pGMl (pMs M i ns) nr i V.2.2.2 ns).1 (vB V)) B2, lSolve (pGMl (pMs M i ns) nr i V.2.2.2 ns).2 V.1 V.2.1 (pGMl (pMs M i ns) nr i V.2.2.2 ns).1 (vB V), B2.2.2.2, G).1 (zB (zSolve (pGMl (pMs M i ns) nr i V.2.2.2 ns).2 V.1 (pGMl (pMs M i ns) nr i V.2.2.2 ns).1 (vB V)) B2, lSolve (pGMl (pMs M i ns) nr i V.2.2.2 ns).2 V.1 V.2.1 (pGMl (pMs M i ns) nr i V.2.2.2 ns).1 (vB V), B2.2.2.2, G).2.1 ((pOf (pGM (pMs M i ns) nr i ns) i ns) (30 + i)) ((pOf (pGM (pMs M i ns) nr i ns) i ns) (50 + i)) 1 ((pOf (pGM (pMs M i ns) nr i ns) i ns) 0 0)) (((pOf (pGM (pMs M i ns) nr i ns) i ns) (30 + i)) 4) (((pOf (pGM (pMs M i ns) nr i ns) i ns) (30 + i)) 5)) 10)) hx hb hown hG rfl kin_X5 hq50i 10 (by decide) wFN_X6_234 rfl dX6_observe_100 ?_
      exact kx (Nat.zero_le _) (Nat.zero_le _) (ke_ui hx hb hr hlk hS dX6_observe_103 ⟨by unfold kObs; rw [if_pos c_5, show (M (50 + x.toNatClampNeg)) = M (50 + i) by rw [ei, nI_clamp (by have := hL.2.2; omega)], if_pos c_38], i, hi, ei, by rw [tKA_zB, pAlarm_zB]; rfl, _, by rw [tKA_zB, pAlarm_zB] at hw; exact hw⟩)
    · exact k_throw ex_is wStr_X6_211 hx hb hml hown hlk hlf hG hnx hX hZ dX6_observe_41 dX6_observe_44 dX6_observe_45 dX6_observe_47 dX6_observe_50 ⟨by decide, by decide, by decide, by decide⟩ ⟨by decide, by decide⟩ (Or.inr ⟨by unfold kObs; rw [if_pos c_5, show (M (50 + x.toNatClampNeg)) = M (50 + i) by rw [ei, nI_clamp (by have := hL.2.2; omega)], if_neg c_38], rfl⟩)
  · exact k_throw ex_ib wStr_X6_143 hx hb hml hown hlk hlf hG hnx hX hZ dX6_observe_8 dX6_observe_11 dX6_observe_12 dX6_observe_14 dX6_observe_17 ⟨by decide, by decide, by decide, by decide⟩ ⟨by decide, by decide⟩ (Or.inl ⟨by unfold kObs; rw [if_neg c_5], rfl⟩)
set_option maxHeartbeats 4000000 in
set_option maxRecDepth 100000 in
theorem c_X6_ofStar (l : Launch) (hlf : l.stackTraces = false) (D : va_G) (cy : Nat → ClassId) (ad : Nat → Nat) (ns nt nr : Nat) (hL : LB ns nt nr) (M : Nat → Nat → Int32) (V : SX) (hA : AI ad ns nt nr) (x w : Int32) : vx_Met l yX6_ofStar [.code yX6_ofStar cX6_ofStar 3 (some .int)] ({ frames := 6, cells := 1, slots := 6, locals := 82 } : Room) (PX D cy [.ref (ad 0), .int x, .int w] (fun H => CW D cy ad ns nt nr M V H)) (UQi (CA ad ns nt nr) (fun r H => kRng ns x w 0 7 = 0 ∧ ∃ i, i < ns ∧ x = nI i ∧ r = pTell (M (10 + i)) w ∧ CW D cy ad ns nt nr M V H)) (XQ (errP (kRng ns x w 0 7) EIB EIA)) 1 6 (CA ad ns nt nr) := by
  refine k_bodyX (by decide +kernel) (Nat.le_of_ble_eq_true rfl) ?_
  intro p e s m below meth c ls hx hb hml hown hr hlk hmn hl hG hI hnx hX hZ
  have hml9 : c.maxLocals = 3 := hml.trans hl.1
  have hl : lv_has ls 3 [(0, .ref (ad 0)), (1, .int x), (2, .int w)] := hl
  have hS : va_S (CA ad ns nt nr) s.heap s.heap [] := va_S.rf
  have hw := hI
  refine lv_aload_n hx hb dX6_ofStar_0 rfl (lv_at hl 0 rfl) ?_
  refine lv_iload_n hx hb dX6_ofStar_1 rfl (lv_at hl 1 rfl) ?_
  refine kc_i (kr_V (As := [.int x]) (rest := []) hx hb hml hown hG (c_X6_isNoStar l D cy ad ns nt nr hL M V x) cf_X6_isNoStar wM_X6_59 hw.o rfl hw ⟨rfl, rfl, by decide, by decide⟩ rfl rfl (Nat.le_of_ble_eq_true rfl) ⟨Nat.le_of_ble_eq_true rfl, Nat.le_of_ble_eq_true rfl⟩ dX6_ofStar_2) ?_
  refine lv_if_eq (tgt := 18) hx hb dX6_ofStar_5 (by decide) (fun c_5 => ?_) (fun c_5 => ?_)
  · obtain ⟨i, hi, ei⟩ := pOut_f hL.1 c_5
    refine lv_iload_n hx hb dX6_ofStar_18 rfl (lv_at hl 2 rfl) ?_
    refine lv_iconst (v := 0) hx hb dX6_ofStar_19 (by decide) ?_
    refine lv_bipush (v := 7) hx hb dX6_ofStar_20 (by decide) ?_
    refine kc_i (kr_S (As := [.int w, .int 0, .int 7]) (rest := []) hx hb hml hown hG (c_X6_isOutside l D cy w 0 7) cf_X6_isOutside wM_X6_34 trivial ⟨rfl, rfl, by decide, by decide⟩ rfl rfl (Nat.le_of_ble_eq_true rfl) ⟨Nat.le_of_ble_eq_true rfl, Nat.le_of_ble_eq_true rfl⟩ dX6_ofStar_22) ?_
    refine lv_if_eq (tgt := 38) hx hb dX6_ofStar_25 (by decide) (fun c_25 => ?_) (fun c_25 => ?_)
    · refine lv_aload_n hx hb dX6_ofStar_38 rfl (lv_at hl 0 rfl) ?_
      refine k_get (ci := 6) (C := RX6) (T := TX6) (N := 8) (v := .ref (ad 7)) hx hb hown hG rfl kin_X6 hw.o 0 (by decide) wF_X6_11 rfl dX6_ofStar_39 ?_
      refine lv_iload_n hx hb dX6_ofStar_42 rfl (lv_at hl 1 rfl) ?_
      refine k_aldq (v := (ad (10 + i))) hx hb hG 1 rfl hw.a7 (by rw [ei]; exact vp_in_nI (Nat.lt_of_lt_of_le hi hL.1) (by decide)) (by rw [ei]; exact aSt hi hL) dX6_ofStar_43 ?_
      refine lv_iload_n hx hb dX6_ofStar_44 rfl (lv_at hl 2 rfl) ?_
      refine kc_i (kr_VN (As := [.int w]) (rest := []) hx hb hml hown hG (c_X3_tell l D cy (ad (10 + i)) (M (10 + i)) w) cf_X3_tell wMN_X6_239 (hw.st hL hi) rfl (hw.st hL hi) ⟨rfl, rfl, by decide, by decide⟩ rfl rfl (Nat.le_of_ble_eq_true rfl) ⟨Nat.le_of_ble_eq_true rfl, Nat.le_of_ble_eq_true rfl⟩ dX6_ofStar_45) ?_
      exact kx (Nat.zero_le _) (Nat.zero_le _) (ke_ui hx hb hr hlk hS dX6_ofStar_48 ⟨by unfold kRng; rw [if_pos c_5, if_pos c_25], i, hi, ei, rfl, hw⟩)
    · exact k_throw ex_ia wStr_X6_237 hx hb hml hown hlk hlf hG hnx hX hZ dX6_ofStar_28 dX6_ofStar_31 dX6_ofStar_32 dX6_ofStar_34 dX6_ofStar_37 ⟨by decide, by decide, by decide, by decide⟩ ⟨by decide, by decide⟩ (Or.inr ⟨by unfold kRng; rw [if_pos c_5, if_neg c_25], rfl⟩)
  · exact k_throw ex_ib wStr_X6_65 hx hb hml hown hlk hlf hG hnx hX hZ dX6_ofStar_8 dX6_ofStar_11 dX6_ofStar_12 dX6_ofStar_14 dX6_ofStar_17 ⟨by decide, by decide, by decide, by decide⟩ ⟨by decide, by decide⟩ (Or.inl ⟨by unfold kRng; rw [if_neg c_5], rfl⟩)
set_option maxHeartbeats 4000000 in
set_option maxRecDepth 100000 in
theorem c_X6_message (l : Launch) (hlf : l.stackTraces = false) (D : va_G) (cy : Nat → ClassId) (ad : Nat → Nat) (ns nt nr : Nat) (hL : LB ns nt nr) (M : Nat → Nat → Int32) (V : SX) (hA : AI ad ns nt nr) (x w : Int32) : vx_Met l yX6_message [.code yX6_message cX6_message 3 (some .int)] ({ frames := 6, cells := 1, slots := 6, locals := 82 } : Room) (PX D cy [.ref (ad 0), .int x, .int w] (fun H => CW D cy ad ns nt nr M V H)) (UQi (CA ad ns nt nr) (fun r H => kRng ns x w 0 7 = 0 ∧ ∃ i, i < ns ∧ x = nI i ∧ r = pTellM (M (10 + i)) w (M 0 0) ∧ CW D cy ad ns nt nr M V H)) (XQ (errP (kRng ns x w 0 7) EIB EIA)) 1 6 (CA ad ns nt nr) := by
  refine k_bodyX (by decide +kernel) (Nat.le_of_ble_eq_true rfl) ?_
  intro p e s m below meth c ls hx hb hml hown hr hlk hmn hl hG hI hnx hX hZ
  have hml9 : c.maxLocals = 3 := hml.trans hl.1
  have hl : lv_has ls 3 [(0, .ref (ad 0)), (1, .int x), (2, .int w)] := hl
  have hS : va_S (CA ad ns nt nr) s.heap s.heap [] := va_S.rf
  have hw := hI
  refine lv_aload_n hx hb dX6_message_0 rfl (lv_at hl 0 rfl) ?_
  refine lv_iload_n hx hb dX6_message_1 rfl (lv_at hl 1 rfl) ?_
  refine kc_i (kr_V (As := [.int x]) (rest := []) hx hb hml hown hG (c_X6_isNoStar l D cy ad ns nt nr hL M V x) cf_X6_isNoStar wM_X6_59 hw.o rfl hw ⟨rfl, rfl, by decide, by decide⟩ rfl rfl (Nat.le_of_ble_eq_true rfl) ⟨Nat.le_of_ble_eq_true rfl, Nat.le_of_ble_eq_true rfl⟩ dX6_message_2) ?_
  refine lv_if_eq (tgt := 18) hx hb dX6_message_5 (by decide) (fun c_5 => ?_) (fun c_5 => ?_)
  · obtain ⟨i, hi, ei⟩ := pOut_f hL.1 c_5
    refine lv_iload_n hx hb dX6_message_18 rfl (lv_at hl 2 rfl) ?_
    refine lv_iconst (v := 0) hx hb dX6_message_19 (by decide) ?_
    refine lv_bipush (v := 7) hx hb dX6_message_20 (by decide) ?_
    refine kc_i (kr_S (As := [.int w, .int 0, .int 7]) (rest := []) hx hb hml hown hG (c_X6_isOutside l D cy w 0 7) cf_X6_isOutside wM_X6_34 trivial ⟨rfl, rfl, by decide, by decide⟩ rfl rfl (Nat.le_of_ble_eq_true rfl) ⟨Nat.le_of_ble_eq_true rfl, Nat.le_of_ble_eq_true rfl⟩ dX6_message_22) ?_
    refine lv_if_eq (tgt := 38) hx hb dX6_message_25 (by decide) (fun c_25 => ?_) (fun c_25 => ?_)
    · refine lv_aload_n hx hb dX6_message_38 rfl (lv_at hl 0 rfl) ?_
      refine k_get (ci := 6) (C := RX6) (T := TX6) (N := 8) (v := .ref (ad 7)) hx hb hown hG rfl kin_X6 hw.o 0 (by decide) wF_X6_11 rfl dX6_message_39 ?_
      refine lv_iload_n hx hb dX6_message_42 rfl (lv_at hl 1 rfl) ?_
      refine k_aldq (v := (ad (10 + i))) hx hb hG 1 rfl hw.a7 (by rw [ei]; exact vp_in_nI (Nat.lt_of_lt_of_le hi hL.1) (by decide)) (by rw [ei]; exact aSt hi hL) dX6_message_43 ?_
      refine lv_iload_n hx hb dX6_message_44 rfl (lv_at hl 2 rfl) ?_
      refine lv_aload_n hx hb dX6_message_45 rfl (lv_at hl 0 rfl) ?_
      refine k_get (ci := 6) (C := RX6) (T := TX6) (N := 8) (v := .int (M 0 0)) hx hb hown hG rfl kin_X6 hw.o 7 (by decide) wF_X6_114 rfl dX6_message_46 ?_
      refine kc_i (kr_VN (As := [.int w, .int (M 0 0)]) (rest := []) hx hb hml hown hG (c_X3_tellMessage l D cy (ad (10 + i)) (M (10 + i)) w (M 0 0)) cf_X3_tellMessage wMN_X6_242 (hw.st hL hi) rfl (hw.st hL hi) ⟨rfl, rfl, by decide, by decide⟩ rfl rfl (Nat.le_of_ble_eq_true rfl) ⟨Nat.le_of_ble_eq_true rfl, Nat.le_of_ble_eq_true rfl⟩ dX6_message_49) ?_
      exact kx (Nat.zero_le _) (Nat.zero_le _) (ke_ui hx hb hr hlk hS dX6_message_52 ⟨by unfold kRng; rw [if_pos c_5, if_pos c_25], i, hi, ei, rfl, hw⟩)
    · exact k_throw ex_ia wStr_X6_237 hx hb hml hown hlk hlf hG hnx hX hZ dX6_message_28 dX6_message_31 dX6_message_32 dX6_message_34 dX6_message_37 ⟨by decide, by decide, by decide, by decide⟩ ⟨by decide, by decide⟩ (Or.inr ⟨by unfold kRng; rw [if_pos c_5, if_neg c_25], rfl⟩)
  · exact k_throw ex_ib wStr_X6_65 hx hb hml hown hlk hlf hG hnx hX hZ dX6_message_8 dX6_message_11 dX6_message_12 dX6_message_14 dX6_message_17 ⟨by decide, by decide, by decide, by decide⟩ ⟨by decide, by decide⟩ (Or.inl ⟨by unfold kRng; rw [if_neg c_5], rfl⟩)
set_option maxHeartbeats 4000000 in
set_option maxRecDepth 100000 in
theorem c_X6_seen (l : Launch) (hlf : l.stackTraces = false) (D : va_G) (cy : Nat → ClassId) (ad : Nat → Nat) (ns nt nr : Nat) (hL : LB ns nt nr) (M : Nat → Nat → Int32) (V : SX) (hA : AI ad ns nt nr) (x y w : Int32) : vx_Met l yX6_seen [.code yX6_seen cX6_seen 4 (some .int)] ({ frames := 6, cells := 1, slots := 6, locals := 82 } : Room) (PX D cy [.ref (ad 0), .int x, .int y, .int w] (fun H => CW D cy ad ns nt nr M V H)) (UQi (CA ad ns nt nr) (fun r H => kTwoR nr ns x y w 7 = 0 ∧ ∃ i j, i < nr ∧ j < ns ∧ x = nI i ∧ y = nI j ∧ r = pTellG (M (60 + 8 * i + j)) w ∧ CW D cy ad ns nt nr M V H)) (XQ (errP (kTwoR nr ns x y w 7) EIB EIA)) 1 6 (CA ad ns nt nr) := by
  refine k_bodyX (by decide +kernel) (Nat.le_of_ble_eq_true rfl) ?_
  intro p e s m below meth c ls hx hb hml hown hr hlk hmn hl hG hI hnx hX hZ
  have hml9 : c.maxLocals = 4 := hml.trans hl.1
  have hl : lv_has ls 4 [(0, .ref (ad 0)), (1, .int x), (2, .int y), (3, .int w)] := hl
  have hS : va_S (CA ad ns nt nr) s.heap s.heap [] := va_S.rf
  have hw := hI
  refine lv_aload_n hx hb dX6_seen_0 rfl (lv_at hl 0 rfl) ?_
  refine lv_iload_n hx hb dX6_seen_1 rfl (lv_at hl 1 rfl) ?_
  refine kc_i (kr_V (As := [.int x]) (rest := []) hx hb hml hown hG (c_X6_isNoReceiver l D cy ad ns nt nr hL M V x) cf_X6_isNoReceiver wM_X6_140 hw.o rfl hw ⟨rfl, rfl, by decide, by decide⟩ rfl rfl (Nat.le_of_ble_eq_true rfl) ⟨Nat.le_of_ble_eq_true rfl, Nat.le_of_ble_eq_true rfl⟩ dX6_seen_2) ?_
  refine lv_if_ne (tgt := 16) hx hb dX6_seen_5 (by decide) (fun c_5 => ?_) (fun c_5 => ?_)
  · exact k_throw ex_ib wStr_X6_245 hx hb hml hown hlk hlf hG hnx hX hZ dX6_seen_16 dX6_seen_19 dX6_seen_20 dX6_seen_22 dX6_seen_25 ⟨by decide, by decide, by decide, by decide⟩ ⟨by decide, by decide⟩ (Or.inl ⟨by unfold kTwoR; rw [if_neg c_5], rfl⟩)
  · obtain ⟨i, hi, ei⟩ := pOut_f (Nat.le_trans hL.2.2 (by decide)) c_5
    refine lv_aload_n hx hb dX6_seen_8 rfl (lv_at hl 0 rfl) ?_
    refine lv_iload_n hx hb dX6_seen_9 rfl (lv_at hl 2 rfl) ?_
    refine kc_i (kr_V (As := [.int y]) (rest := []) hx hb hml hown hG (c_X6_isNoStar l D cy ad ns nt nr hL M V y) cf_X6_isNoStar wM_X6_59 hw.o rfl hw ⟨rfl, rfl, by decide, by decide⟩ rfl rfl (Nat.le_of_ble_eq_true rfl) ⟨Nat.le_of_ble_eq_true rfl, Nat.le_of_ble_eq_true rfl⟩ dX6_seen_10) ?_
    refine lv_if_eq (tgt := 26) hx hb dX6_seen_13 (by decide) (fun c_13 => ?_) (fun c_13 => ?_)
    · obtain ⟨j, hj, ej⟩ := pOut_f hL.1 c_13
      refine lv_iload_n hx hb dX6_seen_26 rfl (lv_at hl 3 rfl) ?_
      refine lv_iconst (v := 0) hx hb dX6_seen_27 (by decide) ?_
      refine lv_bipush (v := 7) hx hb dX6_seen_28 (by decide) ?_
      refine kc_i (kr_S (As := [.int w, .int 0, .int 7]) (rest := []) hx hb hml hown hG (c_X6_isOutside l D cy w 0 7) cf_X6_isOutside wM_X6_34 trivial ⟨rfl, rfl, by decide, by decide⟩ rfl rfl (Nat.le_of_ble_eq_true rfl) ⟨Nat.le_of_ble_eq_true rfl, Nat.le_of_ble_eq_true rfl⟩ dX6_seen_30) ?_
      refine lv_if_eq (tgt := 46) hx hb dX6_seen_33 (by decide) (fun c_33 => ?_) (fun c_33 => ?_)
      · refine lv_aload_n hx hb dX6_seen_46 rfl (lv_at hl 0 rfl) ?_
        refine k_get (ci := 6) (C := RX6) (T := TX6) (N := 8) (v := .ref (ad 9)) hx hb hown hG rfl kin_X6 hw.o 2 (by decide) wF_X6_23 rfl dX6_seen_47 ?_
        refine lv_iload_n hx hb dX6_seen_50 rfl (lv_at hl 1 rfl) ?_
        refine k_aldq (v := (ad (30 + i))) hx hb hG 3 rfl hw.a9 (by rw [ei]; exact vp_in_nI (n := i) (Nat.lt_of_lt_of_le hi hL.2.2) (by decide)) (by rw [ei]; exact aRc (i := i) hi hL) dX6_seen_51 ?_
        refine k_getN (ci := 0) (C := RX0) (T := TX0) (N := 13) (v := .ref (ad (40 + i))) hx hb hown hG rfl kin_X0 (hw.rc hL hi) 2 (by decide) wFN_X6_247 rfl dX6_seen_52 ?_
        refine lv_iload_n hx hb dX6_seen_55 rfl (lv_at hl 2 rfl) ?_
        refine k_aldq (v := (ad (60 + 8 * i + j))) hx hb hG 4 rfl (hw.ga hL hi) (by rw [ej]; exact vp_in_nI (Nat.lt_of_lt_of_le hj hL.1) (by decide)) (by rw [ej]; exact aSg (i := i) (Nat.lt_of_lt_of_le hj hL.1)) dX6_seen_56 ?_
        refine lv_iload_n hx hb dX6_seen_57 rfl (lv_at hl 3 rfl) ?_
        refine kc_i (kr_VN (As := [.int w]) (rest := []) hx hb hml hown hG (c_X1_tell l D cy (ad (60 + 8 * i + j)) (M (60 + 8 * i + j)) w) cf_X1_tell wMN_X6_251 (hw.sg hL hi (Nat.lt_of_lt_of_le hj hL.1)) rfl (hw.sg hL hi (Nat.lt_of_lt_of_le hj hL.1)) ⟨rfl, rfl, by decide, by decide⟩ rfl rfl (Nat.le_of_ble_eq_true rfl) ⟨Nat.le_of_ble_eq_true rfl, Nat.le_of_ble_eq_true rfl⟩ dX6_seen_58) ?_
        exact kx (Nat.zero_le _) (Nat.zero_le _) (ke_ui hx hb hr hlk hS dX6_seen_61 ⟨by unfold kTwoR; rw [if_pos c_5, if_pos c_13, if_pos c_33], i, j, hi, hj, ei, ej, rfl, hw⟩)
      · exact k_throw ex_ia wStr_X6_237 hx hb hml hown hlk hlf hG hnx hX hZ dX6_seen_36 dX6_seen_39 dX6_seen_40 dX6_seen_42 dX6_seen_45 ⟨by decide, by decide, by decide, by decide⟩ ⟨by decide, by decide⟩ (Or.inr ⟨by unfold kTwoR; rw [if_pos c_5, if_pos c_13, if_neg c_33], rfl⟩)
    · exact k_throw ex_ib wStr_X6_245 hx hb hml hown hlk hlf hG hnx hX hZ dX6_seen_16 dX6_seen_19 dX6_seen_20 dX6_seen_22 dX6_seen_25 ⟨by decide, by decide, by decide, by decide⟩ ⟨by decide, by decide⟩ (Or.inl ⟨by unfold kTwoR; rw [if_pos c_5, if_neg c_13], rfl⟩)
set_option maxHeartbeats 4000000 in
set_option maxRecDepth 100000 in
theorem c_X6_ofReceiver (l : Launch) (hlf : l.stackTraces = false) (D : va_G) (cy : Nat → ClassId) (ad : Nat → Nat) (ns nt nr : Nat) (hL : LB ns nt nr) (M : Nat → Nat → Int32) (V : SX) (hA : AI ad ns nt nr) (x w : Int32) : vx_Met l yX6_ofReceiver [.code yX6_ofReceiver cX6_ofReceiver 3 (some .int)] ({ frames := 6, cells := 1, slots := 6, locals := 111 } : Room) (PX D cy [.ref (ad 0), .int x, .int w] (fun H => CW D cy ad ns nt nr M V H)) (UQi (CA ad ns nt nr) (fun r H => kRng nr x w 0 13 = 0 ∧ ∃ i, i < nr ∧ x = nI i ∧ r = pTellR M ns i w ∧ CW D cy ad ns nt nr M V H)) (XQ (errP (kRng nr x w 0 13) EIB EIA)) 1 6 (CA ad ns nt nr) := by
  refine k_bodyX (by decide +kernel) (Nat.le_of_ble_eq_true rfl) ?_
  intro p e s m below meth c ls hx hb hml hown hr hlk hmn hl hG hI hnx hX hZ
  have hml9 : c.maxLocals = 3 := hml.trans hl.1
  have hl : lv_has ls 3 [(0, .ref (ad 0)), (1, .int x), (2, .int w)] := hl
  have hS : va_S (CA ad ns nt nr) s.heap s.heap [] := va_S.rf
  have hw := hI
  refine lv_aload_n hx hb dX6_ofReceiver_0 rfl (lv_at hl 0 rfl) ?_
  refine lv_iload_n hx hb dX6_ofReceiver_1 rfl (lv_at hl 1 rfl) ?_
  refine kc_i (kr_V (As := [.int x]) (rest := []) hx hb hml hown hG (c_X6_isNoReceiver l D cy ad ns nt nr hL M V x) cf_X6_isNoReceiver wM_X6_140 hw.o rfl hw ⟨rfl, rfl, by decide, by decide⟩ rfl rfl (Nat.le_of_ble_eq_true rfl) ⟨Nat.le_of_ble_eq_true rfl, Nat.le_of_ble_eq_true rfl⟩ dX6_ofReceiver_2) ?_
  refine lv_if_eq (tgt := 18) hx hb dX6_ofReceiver_5 (by decide) (fun c_5 => ?_) (fun c_5 => ?_)
  · obtain ⟨i, hi, ei⟩ := pOut_f (Nat.le_trans hL.2.2 (by decide)) c_5
    refine lv_iload_n hx hb dX6_ofReceiver_18 rfl (lv_at hl 2 rfl) ?_
    refine lv_iconst (v := 0) hx hb dX6_ofReceiver_19 (by decide) ?_
    refine lv_bipush (v := 13) hx hb dX6_ofReceiver_20 (by decide) ?_
    refine kc_i (kr_S (As := [.int w, .int 0, .int 13]) (rest := []) hx hb hml hown hG (c_X6_isOutside l D cy w 0 13) cf_X6_isOutside wM_X6_34 trivial ⟨rfl, rfl, by decide, by decide⟩ rfl rfl (Nat.le_of_ble_eq_true rfl) ⟨Nat.le_of_ble_eq_true rfl, Nat.le_of_ble_eq_true rfl⟩ dX6_ofReceiver_22) ?_
    refine lv_if_eq (tgt := 38) hx hb dX6_ofReceiver_25 (by decide) (fun c_25 => ?_) (fun c_25 => ?_)
    · refine lv_aload_n hx hb dX6_ofReceiver_38 rfl (lv_at hl 0 rfl) ?_
      refine lv_aload_n hx hb dX6_ofReceiver_39 rfl (lv_at hl 0 rfl) ?_
      refine k_get (ci := 6) (C := RX6) (T := TX6) (N := 8) (v := .ref (ad 9)) hx hb hown hG rfl kin_X6 hw.o 2 (by decide) wF_X6_23 rfl dX6_ofReceiver_40 ?_
      refine lv_iload_n hx hb dX6_ofReceiver_43 rfl (lv_at hl 1 rfl) ?_
      refine k_aldq (v := (ad (30 + i))) hx hb hG 3 rfl hw.a9 (by rw [ei]; exact vp_in_nI (n := i) (Nat.lt_of_lt_of_le hi hL.2.2) (by decide)) (by rw [ei]; exact aRc (i := i) hi hL) dX6_ofReceiver_44 ?_
      refine lv_iload_n hx hb dX6_ofReceiver_45 rfl (lv_at hl 2 rfl) ?_
      refine kc_i (kr_V (As := [.ref (ad (30 + i)), .int w]) (rest := []) hx hb hml hown hG (c_X6_tellReceiver l D cy ad ns nt nr hL M V i hi w) cf_X6_tellReceiver wM_X6_254 hw.o rfl hw ⟨rfl, rfl, by decide, by decide⟩ rfl rfl (Nat.le_of_ble_eq_true rfl) ⟨Nat.le_of_ble_eq_true rfl, Nat.le_of_ble_eq_true rfl⟩ dX6_ofReceiver_46) ?_
      exact kx (Nat.zero_le _) (Nat.zero_le _) (ke_ui hx hb hr hlk hS dX6_ofReceiver_49 ⟨by unfold kRng; rw [if_pos c_5, if_pos c_25], i, hi, ei, rfl, hw⟩)
    · exact k_throw ex_ia wStr_X6_237 hx hb hml hown hlk hlf hG hnx hX hZ dX6_ofReceiver_28 dX6_ofReceiver_31 dX6_ofReceiver_32 dX6_ofReceiver_34 dX6_ofReceiver_37 ⟨by decide, by decide, by decide, by decide⟩ ⟨by decide, by decide⟩ (Or.inr ⟨by unfold kRng; rw [if_pos c_5, if_neg c_25], rfl⟩)
  · exact k_throw ex_ib wStr_X6_143 hx hb hml hown hlk hlf hG hnx hX hZ dX6_ofReceiver_8 dX6_ofReceiver_11 dX6_ofReceiver_12 dX6_ofReceiver_14 dX6_ofReceiver_17 ⟨by decide, by decide, by decide, by decide⟩ ⟨by decide, by decide⟩ (Or.inl ⟨by unfold kRng; rw [if_neg c_5], rfl⟩)
set_option maxHeartbeats 4000000 in
set_option maxRecDepth 100000 in
theorem c_X6_many (l : Launch) (hlf : l.stackTraces = false) (D : va_G) (cy : Nat → ClassId) (ad : Nat → Nat) (ns nt nr : Nat) (hL : LB ns nt nr) (M : Nat → Nat → Int32) (V : SX) (hA : AI ad ns nt nr) (w : Int32) : vx_Met l yX6_many [.code yX6_many cX6_many 2 (some .int)] ({ frames := 6, cells := 1, slots := 6, locals := 87 } : Room) (PX D cy [.ref (ad 0), .int w] (fun H => CW D cy ad ns nt nr M V H)) (UQi (CA ad ns nt nr) (fun r H => kIn w 0 8 = 0 ∧ r = pCount M ns nt nr w ∧ CW D cy ad ns nt nr M V H)) (XQ (errP (kIn w 0 8) EIA EIA)) 1 6 (CA ad ns nt nr) := by
  refine k_bodyX (by decide +kernel) (Nat.le_of_ble_eq_true rfl) ?_
  intro p e s m below meth c ls hx hb hml hown hr hlk hmn hl hG hI hnx hX hZ
  have hml9 : c.maxLocals = 2 := hml.trans hl.1
  have hl : lv_has ls 2 [(0, .ref (ad 0)), (1, .int w)] := hl
  have hS : va_S (CA ad ns nt nr) s.heap s.heap [] := va_S.rf
  have hw := hI
  refine lv_iload_n hx hb dX6_many_0 rfl (lv_at hl 1 rfl) ?_
  refine lv_iconst (v := 0) hx hb dX6_many_1 (by decide) ?_
  refine lv_bipush (v := 8) hx hb dX6_many_2 (by decide) ?_
  refine kc_i (kr_S (As := [.int w, .int 0, .int 8]) (rest := []) hx hb hml hown hG (c_X6_isOutside l D cy w 0 8) cf_X6_isOutside wM_X6_34 trivial ⟨rfl, rfl, by decide, by decide⟩ rfl rfl (Nat.le_of_ble_eq_true rfl) ⟨Nat.le_of_ble_eq_true rfl, Nat.le_of_ble_eq_true rfl⟩ dX6_many_4) ?_
  refine lv_if_eq (tgt := 20) hx hb dX6_many_7 (by decide) (fun c_7 => ?_) (fun c_7 => ?_)
  · refine lv_aload_n hx hb dX6_many_20 rfl (lv_at hl 0 rfl) ?_
    refine lv_iload_n hx hb dX6_many_21 rfl (lv_at hl 1 rfl) ?_
    refine kc_i (kr_V (As := [.int w]) (rest := []) hx hb hml hown hG (c_X6_countOf l D cy ad ns nt nr hL M V w) cf_X6_countOf wM_X6_257 hw.o rfl hw ⟨rfl, rfl, by decide, by decide⟩ rfl rfl (Nat.le_of_ble_eq_true rfl) ⟨Nat.le_of_ble_eq_true rfl, Nat.le_of_ble_eq_true rfl⟩ dX6_many_22) ?_
    exact kx (Nat.zero_le _) (Nat.zero_le _) (ke_ui hx hb hr hlk hS dX6_many_25 ⟨by unfold kIn; rw [if_pos c_7], rfl, hw⟩)
  · exact k_throw ex_ia wStr_X6_237 hx hb hml hown hlk hlf hG hnx hX hZ dX6_many_10 dX6_many_13 dX6_many_14 dX6_many_16 dX6_many_19 ⟨by decide, by decide, by decide, by decide⟩ ⟨by decide, by decide⟩ (Or.inl ⟨by unfold kIn; rw [if_neg c_7], rfl⟩)
set_option maxHeartbeats 4000000 in
set_option maxRecDepth 100000 in
theorem c_X6_wouldSee (l : Launch) (hlf : l.stackTraces = false) (D : va_G) (cy : Nat → ClassId) (ad : Nat → Nat) (ns nt nr : Nat) (hL : LB ns nt nr) (M : Nat → Nat → Int32) (V : SX) (hA : AI ad ns nt nr) (x k : Int32) : vx_Met l yX6_wouldSee [.code yX6_wouldSee cX6_wouldSee 3 (some .int)] ({ frames := 6, cells := 1, slots := 6, locals := 89 } : Room) (PX D cy [.ref (ad 0), .int x, .int k] (fun H => CW D cy ad ns nt nr M V H)) (UQi (CA ad ns nt nr) (fun r H => kRng nr x k 0 48 = 0 ∧ ∃ i, i < nr ∧ x = nI i ∧ r = pSet (M (30 + i)) M k ns ∧ CW D cy ad ns nt nr M V H)) (XQ (errP (kRng nr x k 0 48) EIB EIA)) 1 6 (CA ad ns nt nr) := by
  refine k_bodyX (by decide +kernel) (Nat.le_of_ble_eq_true rfl) ?_
  intro p e s m below meth c ls hx hb hml hown hr hlk hmn hl hG hI hnx hX hZ
  have hml9 : c.maxLocals = 3 := hml.trans hl.1
  have hl : lv_has ls 3 [(0, .ref (ad 0)), (1, .int x), (2, .int k)] := hl
  have hS : va_S (CA ad ns nt nr) s.heap s.heap [] := va_S.rf
  have hw := hI
  refine lv_aload_n hx hb dX6_wouldSee_0 rfl (lv_at hl 0 rfl) ?_
  refine lv_iload_n hx hb dX6_wouldSee_1 rfl (lv_at hl 1 rfl) ?_
  refine kc_i (kr_V (As := [.int x]) (rest := []) hx hb hml hown hG (c_X6_isNoReceiver l D cy ad ns nt nr hL M V x) cf_X6_isNoReceiver wM_X6_140 hw.o rfl hw ⟨rfl, rfl, by decide, by decide⟩ rfl rfl (Nat.le_of_ble_eq_true rfl) ⟨Nat.le_of_ble_eq_true rfl, Nat.le_of_ble_eq_true rfl⟩ dX6_wouldSee_2) ?_
  refine lv_if_eq (tgt := 18) hx hb dX6_wouldSee_5 (by decide) (fun c_5 => ?_) (fun c_5 => ?_)
  · obtain ⟨i, hi, ei⟩ := pOut_f (Nat.le_trans hL.2.2 (by decide)) c_5
    refine lv_iload_n hx hb dX6_wouldSee_18 rfl (lv_at hl 2 rfl) ?_
    refine lv_iconst (v := 0) hx hb dX6_wouldSee_19 (by decide) ?_
    refine lv_bipush (v := 48) hx hb dX6_wouldSee_20 (by decide) ?_
    refine kc_i (kr_S (As := [.int k, .int 0, .int 48]) (rest := []) hx hb hml hown hG (c_X6_isOutside l D cy k 0 48) cf_X6_isOutside wM_X6_34 trivial ⟨rfl, rfl, by decide, by decide⟩ rfl rfl (Nat.le_of_ble_eq_true rfl) ⟨Nat.le_of_ble_eq_true rfl, Nat.le_of_ble_eq_true rfl⟩ dX6_wouldSee_22) ?_
    refine lv_if_eq (tgt := 38) hx hb dX6_wouldSee_25 (by decide) (fun c_25 => ?_) (fun c_25 => ?_)
    · refine lv_aload_n hx hb dX6_wouldSee_38 rfl (lv_at hl 0 rfl) ?_
      refine lv_aload_n hx hb dX6_wouldSee_39 rfl (lv_at hl 0 rfl) ?_
      refine k_get (ci := 6) (C := RX6) (T := TX6) (N := 8) (v := .ref (ad 9)) hx hb hown hG rfl kin_X6 hw.o 2 (by decide) wF_X6_23 rfl dX6_wouldSee_40 ?_
      refine lv_iload_n hx hb dX6_wouldSee_43 rfl (lv_at hl 1 rfl) ?_
      refine k_aldq (v := (ad (30 + i))) hx hb hG 3 rfl hw.a9 (by rw [ei]; exact vp_in_nI (n := i) (Nat.lt_of_lt_of_le hi hL.2.2) (by decide)) (by rw [ei]; exact aRc (i := i) hi hL) dX6_wouldSee_44 ?_
      refine lv_iload_n hx hb dX6_wouldSee_45 rfl (lv_at hl 2 rfl) ?_
      refine kc_i (kr_V (As := [.ref (ad (30 + i)), .int k]) (rest := []) hx hb hml hown hG (c_X6_setSeen l D cy ad ns nt nr hL M V i hi k) cf_X6_setSeen wM_X6_165 hw.o rfl hw ⟨rfl, rfl, by decide, by decide⟩ rfl rfl (Nat.le_of_ble_eq_true rfl) ⟨Nat.le_of_ble_eq_true rfl, Nat.le_of_ble_eq_true rfl⟩ dX6_wouldSee_46) ?_
      exact kx (Nat.zero_le _) (Nat.zero_le _) (ke_ui hx hb hr hlk hS dX6_wouldSee_49 ⟨by unfold kRng; rw [if_pos c_5, if_pos c_25], i, hi, ei, rfl, hw⟩)
    · exact k_throw ex_ia wStr_X6_197 hx hb hml hown hlk hlf hG hnx hX hZ dX6_wouldSee_28 dX6_wouldSee_31 dX6_wouldSee_32 dX6_wouldSee_34 dX6_wouldSee_37 ⟨by decide, by decide, by decide, by decide⟩ ⟨by decide, by decide⟩ (Or.inr ⟨by unfold kRng; rw [if_pos c_5, if_neg c_25], rfl⟩)
  · exact k_throw ex_ib wStr_X6_143 hx hb hml hown hlk hlf hG hnx hX hZ dX6_wouldSee_8 dX6_wouldSee_11 dX6_wouldSee_12 dX6_wouldSee_14 dX6_wouldSee_17 ⟨by decide, by decide, by decide, by decide⟩ ⟨by decide, by decide⟩ (Or.inl ⟨by unfold kRng; rw [if_neg c_5], rfl⟩)
set_option maxHeartbeats 4000000 in
set_option maxRecDepth 100000 in
theorem c_X6_heardIn (l : Launch) (hlf : l.stackTraces = false) (D : va_G) (cy : Nat → ClassId) (ad : Nat → Nat) (ns nt nr : Nat) (hL : LB ns nt nr) (M : Nat → Nat → Int32) (V : SX) (hA : AI ad ns nt nr) (x t : Int32) : vx_Met l yX6_heardIn [.code yX6_heardIn cX6_heardIn 3 (some .int)] ({ frames := 6, cells := 1, slots := 6, locals := 87 } : Room) (PX D cy [.ref (ad 0), .int x, .int t] (fun H => CW D cy ad ns nt nr M V H)) (UQi (CA ad ns nt nr) (fun r H => kTwo ns nt x t = 0 ∧ ∃ j i, j < ns ∧ i < nt ∧ x = nI j ∧ t = nI i ∧ r = pFs (M (20 + i)) (M (10 + j)) 49 0 ∧ CW D cy ad ns nt nr M V H)) (XQ (errP (kTwo ns nt x t) EIB EIB)) 1 6 (CA ad ns nt nr) := by
  refine k_bodyX (by decide +kernel) (Nat.le_of_ble_eq_true rfl) ?_
  intro p e s m below meth c ls hx hb hml hown hr hlk hmn hl hG hI hnx hX hZ
  have hml9 : c.maxLocals = 3 := hml.trans hl.1
  have hl : lv_has ls 3 [(0, .ref (ad 0)), (1, .int x), (2, .int t)] := hl
  have hS : va_S (CA ad ns nt nr) s.heap s.heap [] := va_S.rf
  have hw := hI
  refine lv_aload_n hx hb dX6_heardIn_0 rfl (lv_at hl 0 rfl) ?_
  refine lv_iload_n hx hb dX6_heardIn_1 rfl (lv_at hl 1 rfl) ?_
  refine kc_i (kr_V (As := [.int x]) (rest := []) hx hb hml hown hG (c_X6_isNoStar l D cy ad ns nt nr hL M V x) cf_X6_isNoStar wM_X6_59 hw.o rfl hw ⟨rfl, rfl, by decide, by decide⟩ rfl rfl (Nat.le_of_ble_eq_true rfl) ⟨Nat.le_of_ble_eq_true rfl, Nat.le_of_ble_eq_true rfl⟩ dX6_heardIn_2) ?_
  refine lv_if_ne (tgt := 16) hx hb dX6_heardIn_5 (by decide) (fun c_5 => ?_) (fun c_5 => ?_)
  · exact k_throwW ex_ib wStr_X6_264 hx hb hml hown hlk hlf hG hnx hX hZ dX6_heardIn_16 dX6_heardIn_19 dX6_heardIn_20 dX6_heardIn_23 dX6_heardIn_26 ⟨by decide, by decide, by decide, by decide⟩ ⟨by decide, by decide⟩ (Or.inl ⟨by unfold kTwo; rw [if_neg c_5], rfl⟩)
  · obtain ⟨j, hj, ej⟩ := pOut_f hL.1 c_5
    refine lv_aload_n hx hb dX6_heardIn_8 rfl (lv_at hl 0 rfl) ?_
    refine lv_iload_n hx hb dX6_heardIn_9 rfl (lv_at hl 2 rfl) ?_
    refine kc_i (kr_V (As := [.int t]) (rest := []) hx hb hml hown hG (c_X6_isNoStation l D cy ad ns nt nr hL M V t) cf_X6_isNoStation wM_X6_103 hw.o rfl hw ⟨rfl, rfl, by decide, by decide⟩ rfl rfl (Nat.le_of_ble_eq_true rfl) ⟨Nat.le_of_ble_eq_true rfl, Nat.le_of_ble_eq_true rfl⟩ dX6_heardIn_10) ?_
    refine lv_if_eq (tgt := 27) hx hb dX6_heardIn_13 (by decide) (fun c_13 => ?_) (fun c_13 => ?_)
    · obtain ⟨i, hi, ei⟩ := pOut_f (Nat.le_trans hL.2.1 (by decide)) c_13
      refine lv_aload_n hx hb dX6_heardIn_27 rfl (lv_at hl 0 rfl) ?_
      refine k_get (ci := 6) (C := RX6) (T := TX6) (N := 8) (v := .ref (ad 7)) hx hb hown hG rfl kin_X6 hw.o 0 (by decide) wF_X6_11 rfl dX6_heardIn_28 ?_
      refine lv_iload_n hx hb dX6_heardIn_31 rfl (lv_at hl 1 rfl) ?_
      refine k_aldq (v := (ad (10 + j))) hx hb hG 1 rfl hw.a7 (by rw [ej]; exact vp_in_nI (Nat.lt_of_lt_of_le hj hL.1) (by decide)) (by rw [ej]; exact aSt hj hL) dX6_heardIn_32 ?_
      refine lv_aload_n hx hb dX6_heardIn_33 rfl (lv_at hl 0 rfl) ?_
      refine k_get (ci := 6) (C := RX6) (T := TX6) (N := 8) (v := .ref (ad 8)) hx hb hown hG rfl kin_X6 hw.o 1 (by decide) wF_X6_17 rfl dX6_heardIn_34 ?_
      refine lv_iload_n hx hb dX6_heardIn_37 rfl (lv_at hl 2 rfl) ?_
      refine k_aldq (v := (ad (20 + i))) hx hb hG 2 rfl hw.a8 (by rw [ei]; exact vp_in_nI (Nat.lt_of_lt_of_le hi hL.2.1) (by decide)) (by rw [ei]; exact aSn hi hL) dX6_heardIn_38 ?_
      refine kc_i (kr_S (As := [.ref (ad (10 + j)), .ref (ad (20 + i))]) (rest := []) hx hb hml hown hG (c_X6_firstHeard l D cy (ad (10 + j)) (ad (20 + i)) (M (20 + i)) (M (10 + j))) cf_X6_firstHeard wM_X6_266 ⟨(hw.st hL hj), (hw.sn hL hi)⟩ ⟨rfl, rfl, by decide, by decide⟩ rfl rfl (Nat.le_of_ble_eq_true rfl) ⟨Nat.le_of_ble_eq_true rfl, Nat.le_of_ble_eq_true rfl⟩ dX6_heardIn_39) ?_
      exact kx (Nat.zero_le _) (Nat.zero_le _) (ke_ui hx hb hr hlk hS dX6_heardIn_42 ⟨by unfold kTwo; rw [if_pos c_5, if_pos c_13], j, i, hj, hi, ej, ei, rfl, hw⟩)
    · exact k_throwW ex_ib wStr_X6_264 hx hb hml hown hlk hlf hG hnx hX hZ dX6_heardIn_16 dX6_heardIn_19 dX6_heardIn_20 dX6_heardIn_23 dX6_heardIn_26 ⟨by decide, by decide, by decide, by decide⟩ ⟨by decide, by decide⟩ (Or.inl ⟨by unfold kTwo; rw [if_pos c_5, if_neg c_13], rfl⟩)