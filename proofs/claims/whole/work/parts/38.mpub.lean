set_option maxHeartbeats 4000000 in
set_option maxRecDepth 100000 in
theorem c_X7_push (l : Launch) (D : va_G) (cy : Nat → ClassId) (md : Nat → Nat) (N : Nat → Nat → Int32) (co su : Int64) (hA : MI md) (ns nt nr : Nat) (hL : LB ns nt nr) (hN : MN N ns nt nr) (x b : Int32) : Met l yX7_push [.code yX7_push cX7_push 3 (some .int)] ({ frames := 2, cells := 0, slots := 0, locals := 43 } : Room) (PC D cy [.ref (md 0), .int x, .int b] (fun H => MW D cy md N co su H)) (UQi (MA md) (mOut D cy md N co su (kPush ns x b) (fun r H => ∃ i, i < ns ∧ x = nI i ∧ r = pFMod (thr N 0 (10 + i) 1 + b) 48 ∧ MW D cy md (mset (thr N 0) (10 + i) (upd (thr N 0 (10 + i)) 1 (pFMod (thr N 0 (10 + i) 1 + b) 48))) co su H))) 0 0 (MA md) := by
  refine k_body (by decide +kernel) (Nat.le_of_ble_eq_true rfl) ?_
  intro p e s m below meth c ls hx hb hml hown hr hlk hmn hl hG hI
  have hml9 : c.maxLocals = 3 := hml.trans hl.1
  have hl : lv_has ls 3 [(0, .ref (md 0)), (1, .int x), (2, .int b)] := hl
  have hS : va_S (MA md) s.heap s.heap [] := va_S.rf
  have hw := hI
  refine lv_aload_n hx hb dX7_push_0 rfl (lv_at hl 0 rfl) ?_
  refine lv_iconst (v := 0) hx hb dX7_push_1 (by decide) ?_
  refine k_put (ci := 7) (C := RX7) (T := TX7) (N := 20) (v := .int 0) hx hb hown hG rfl kin_X7 tyX7 tyX7_ok nmX7 hw.o hS MA.o 0 (by decide) wF_X7_41 rfl rfl rfl (Nat.le_of_ble_eq_true rfl) dX7_push_2 (fun H1 locs hP1 z1 oq1 hS => ?_)
  have hw := hw.setO (r := (upd (N 0) 0 0)) (c' := co) (s' := su) hA hP1 oq1
  have hw : MW D cy md (thr N 0) co su H1 := hw
  refine lv_aload_n hx hb dX7_push_5 rfl (lv_at hl 0 rfl) ?_
  refine lv_iload_n hx hb dX7_push_6 rfl (lv_at hl 1 rfl) ?_
  refine kc_i (kr_V (As := [.int x]) (rest := []) hx hb hml hown hG (c_X7_isStar l D cy md (thr N 0) co su x) cf_X7_isStar wM_X7_98 hw.o rfl hw ⟨rfl, rfl, by decide, by decide⟩ rfl rfl (Nat.le_of_ble_eq_true rfl) ⟨Nat.le_of_ble_eq_true rfl, Nat.le_of_ble_eq_true rfl⟩ dX7_push_7) ?_
  refine lv_if_ne (tgt := 19) hx hb dX7_push_10 (by decide) (fun c_10 => ?_) (fun c_10 => ?_)
  · have c_10 : bI (pOut x 0 (nI ns - 1)) = 0 := by have h := mIs_t c_10; rw [show thr N 0 0 8 = nI ns from hN.1] at h; exact h
    obtain ⟨i, hi, ei⟩ := pOut_f hL.1 c_10
    subst ei
    have hbi := Nat.lt_of_lt_of_le hi hL.1
    refine lv_iload_n hx hb dX7_push_19 rfl (lv_at hl 2 rfl) ?_
    refine lv_bipush (v := (-5)) hx hb dX7_push_20 (by decide) ?_
    refine lv_iconst (v := 5) hx hb dX7_push_22 (by decide) ?_
    refine kc_i (kr_S (As := [.int b, .int (-5), .int 5]) (rest := []) hx hb hml hown hG (c_X7_is l D cy b (-5) 5) cf_X7_is wM_X7_86 trivial ⟨rfl, rfl, by decide, by decide⟩ rfl rfl (Nat.le_of_ble_eq_true rfl) ⟨Nat.le_of_ble_eq_true rfl, Nat.le_of_ble_eq_true rfl⟩ dX7_push_23) ?_
    refine lv_if_ne (tgt := 35) hx hb dX7_push_26 (by decide) (fun c_26 => ?_) (fun c_26 => ?_)
    · have c_26 := mIs_t c_26
      refine lv_aload_n hx hb dX7_push_35 rfl (lv_at hl 0 rfl) ?_
      refine k_get (ci := 7) (C := RX7) (T := TX7) (N := 20) (v := .ref (md 1)) hx hb hown hG rfl kin_X7 hw.o 3 (by decide) wF_X7_11 rfl dX7_push_36 ?_
      refine lv_iload_n hx hb dX7_push_39 rfl (lv_at hl 1 rfl) ?_
      refine k_ald2 (v := (md (10 + i))) hx hb hG 5 rfl hw.a1 (vp_in_nI (n := i) hbi (by decide)) (mo_st hbi) dX7_push_40 ?_
      refine lv_iconst (v := 1) hx hb dX7_push_41 (by decide) ?_
      refine lv_aload_n hx hb dX7_push_42 rfl (lv_at hl 0 rfl) ?_
      refine k_get (ci := 7) (C := RX7) (T := TX7) (N := 20) (v := .ref (md 1)) hx hb hown hG rfl kin_X7 hw.o 3 (by decide) wF_X7_11 rfl dX7_push_43 ?_
      refine lv_iload_n hx hb dX7_push_46 rfl (lv_at hl 1 rfl) ?_
      refine k_ald2 (v := (md (10 + i))) hx hb hG 5 rfl hw.a1 (vp_in_nI (n := i) hbi (by decide)) (mo_st hbi) dX7_push_47 ?_
      refine lv_iconst (v := 1) hx hb dX7_push_48 (by decide) ?_
      refine k_iald (v := ((thr N 0 (10 + i)) 1)) hx hb hG (hw.st hbi) (show vp_in (nI 1) 6 from vp_in_nI (by decide) (by decide)) (congrArg (thr N 0 (10 + i)) (clI 1 (by decide))) dX7_push_49 ?_
      refine lv_iload_n hx hb dX7_push_50 rfl (lv_at hl 2 rfl) ?_
      refine lv_iadd hx hb dX7_push_51 ?_
      refine lv_bipush (v := 48) hx hb dX7_push_52 (by decide) ?_
      refine kc_i (kr_S (As := [.int (((thr N 0 (10 + i)) 1) + b), .int 48]) (rest := [.int 1, .ref (md (10 + i))]) hx hb hml hown hG (c_J9_floorMod_7cf53 l D cy (((thr N 0 (10 + i)) 1) + b) 48 (by decide)) cf_J9_floorMod_7cf53 wM_X7_54 trivial ⟨rfl, rfl, by decide, by decide⟩ rfl rfl (Nat.le_of_ble_eq_true rfl) ⟨Nat.le_of_ble_eq_true rfl, Nat.le_of_ble_eq_true rfl⟩ dX7_push_54) ?_
      refine k_iast hx hb hG (hw.st hbi) hS (MA.i (mk_st hbi)) (show vp_in (nI 1) 6 from vp_in_nI (by decide) (by decide)) dX7_push_57 (fun H1 locs hP1 z1 oq1 hS => ?_)
      rw [show Int32.toNatClampNeg 1 = 1 from clI 1 (by decide)] at hP1
      have hw := hw.setI hA (mk_st hbi) (ml_st hbi) hP1 oq1
      refine lv_aload_n hx hb dX7_push_58 rfl (lv_at hl 0 rfl) ?_
      refine k_get (ci := 7) (C := RX7) (T := TX7) (N := 20) (v := .ref (md 1)) hx hb hown hG rfl kin_X7 (show va_P D vwCl [(md 0, .inr (7, [.int ((thr N 0 0) 0), .int ((thr N 0 0) 1), .int ((thr N 0 0) 2), .ref (md 1), .ref (md 2), .ref (md 3), .ref (md 4), .ref (md 5), .int ((thr N 0 0) 8), .int ((thr N 0 0) 9), .int ((thr N 0 0) 10), .ref (md 6), .ref (md 7), .ref (md 8), .ref (md 9), .int ((thr N 0 0) 15), .int ((thr N 0 0) 16), .int ((thr N 0 0) 17), .long co, .long su]))] _ from by have h := hw.o; unfold mO at h; rw [mset_n (show (0 : Nat) ≠ 10 + i by omega)] at h; exact h) 3 (by decide) wF_X7_11 rfl dX7_push_59 ?_
      refine lv_iload_n hx hb dX7_push_62 rfl (lv_at hl 1 rfl) ?_
      refine k_ald2 (v := (md (10 + i))) hx hb hG 5 rfl hw.a1 (vp_in_nI (n := i) hbi (by decide)) (mo_st hbi) dX7_push_63 ?_
      refine lv_iconst (v := 1) hx hb dX7_push_64 (by decide) ?_
      refine k_iald (v := ((upd (thr N 0 (10 + i)) 1 (pFMod (((thr N 0 (10 + i)) 1) + b) 48)) 1)) hx hb hG (show va_P D vwCl [(md (10 + i), .inl (cy 0, 6, .inl (upd (thr N 0 (10 + i)) 1 (pFMod (((thr N 0 (10 + i)) 1) + b) 48))))] _ from by have h := hw.st hbi; rw [mset_s] at h; exact h) (show vp_in (nI 1) 6 from vp_in_nI (by decide) (by decide)) (congrArg (upd (thr N 0 (10 + i)) 1 (pFMod (((thr N 0 (10 + i)) 1) + b) 48)) (clI 1 (by decide))) dX7_push_65 ?_
      exact ke_ui hx hb hr hlk hS dX7_push_66 (Or.inr (Or.inr ⟨by unfold kPush; rw [if_pos c_10, if_pos c_26], i, hi, rfl, rfl, hw⟩))
    · have c_26 := mIs_f c_26
      refine lv_aload_n hx hb dX7_push_29 rfl (lv_at hl 0 rfl) ?_
      refine lv_iconst (v := 2) hx hb dX7_push_30 (by decide) ?_
      refine kc_ui (kr_V (As := [.int 2]) (rest := []) hx hb hml hown hG (c_X7_refuse l D cy md (thr N 0) co su hA 2) cf_X7_refuse wM_X7_95 hw.o rfl hw ⟨rfl, rfl, by decide, by decide⟩ rfl rfl (Nat.le_of_ble_eq_true rfl) ⟨Nat.le_of_ble_eq_true rfl, Nat.le_of_ble_eq_true rfl⟩ dX7_push_31) hS (fun _ h => h) (fun r_31 H1 locs hp1 z1 oq1 hS => ?_)
      obtain ⟨e9, hw⟩ := hp1
      subst e9
      rw [thr_thr] at hw
      exact ke_ui hx hb hr hlk hS dX7_push_34 (Or.inr (Or.inl ⟨by unfold kPush; rw [if_pos c_10, if_neg c_26], hw⟩))
  · have c_10 : ¬ bI (pOut x 0 (nI ns - 1)) = 0 := by have h := mIs_f c_10; rw [show thr N 0 0 8 = nI ns from hN.1] at h; exact h
    refine lv_aload_n hx hb dX7_push_13 rfl (lv_at hl 0 rfl) ?_
    refine lv_iconst (v := 1) hx hb dX7_push_14 (by decide) ?_
    refine kc_ui (kr_V (As := [.int 1]) (rest := []) hx hb hml hown hG (c_X7_refuse l D cy md (thr N 0) co su hA 1) cf_X7_refuse wM_X7_95 hw.o rfl hw ⟨rfl, rfl, by decide, by decide⟩ rfl rfl (Nat.le_of_ble_eq_true rfl) ⟨Nat.le_of_ble_eq_true rfl, Nat.le_of_ble_eq_true rfl⟩ dX7_push_15) hS (fun _ h => h) (fun r_15 H1 locs hp1 z1 oq1 hS => ?_)
    obtain ⟨e9, hw⟩ := hp1
    subst e9
    rw [thr_thr] at hw
    exact ke_ui hx hb hr hlk hS dX7_push_18 (Or.inl ⟨by unfold kPush; rw [if_neg c_10], hw⟩)
set_option maxHeartbeats 4000000 in
set_option maxRecDepth 100000 in
theorem c_X7_jump (l : Launch) (D : va_G) (cy : Nat → ClassId) (md : Nat → Nat) (N : Nat → Nat → Int32) (co su : Int64) (hA : MI md) (ns nt nr : Nat) (hL : LB ns nt nr) (hN : MN N ns nt nr) (x o d : Int32) : Met l yX7_jump [.code yX7_jump cX7_jump 4 (some .int)] ({ frames := 2, cells := 0, slots := 0, locals := 44 } : Room) (PC D cy [.ref (md 0), .int x, .int o, .int d] (fun H => MW D cy md N co su H)) (UQi (MA md) (mOut D cy md N co su (kJump ns x o d) (fun r H => ∃ i, i < ns ∧ x = nI i ∧ r = pHeld (thr N 0 (10 + i) 3 + o) 999 ∧ MW D cy md (mset (thr N 0) (10 + i) (upd (upd (thr N 0 (10 + i)) 3 (pHeld (thr N 0 (10 + i) 3 + o) 999)) 4 d)) co su H))) 0 0 (MA md) := by
  refine k_body (by decide +kernel) (Nat.le_of_ble_eq_true rfl) ?_
  intro p e s m below meth c ls hx hb hml hown hr hlk hmn hl hG hI
  have hml9 : c.maxLocals = 4 := hml.trans hl.1
  have hl : lv_has ls 4 [(0, .ref (md 0)), (1, .int x), (2, .int o), (3, .int d)] := hl
  have hS : va_S (MA md) s.heap s.heap [] := va_S.rf
  have hw := hI
  refine lv_aload_n hx hb dX7_jump_0 rfl (lv_at hl 0 rfl) ?_
  refine lv_iconst (v := 0) hx hb dX7_jump_1 (by decide) ?_
  refine k_put (ci := 7) (C := RX7) (T := TX7) (N := 20) (v := .int 0) hx hb hown hG rfl kin_X7 tyX7 tyX7_ok nmX7 hw.o hS MA.o 0 (by decide) wF_X7_41 rfl rfl rfl (Nat.le_of_ble_eq_true rfl) dX7_jump_2 (fun H1 locs hP1 z1 oq1 hS => ?_)
  have hw := hw.setO (r := (upd (N 0) 0 0)) (c' := co) (s' := su) hA hP1 oq1
  have hw : MW D cy md (thr N 0) co su H1 := hw
  refine lv_aload_n hx hb dX7_jump_5 rfl (lv_at hl 0 rfl) ?_
  refine lv_iload_n hx hb dX7_jump_6 rfl (lv_at hl 1 rfl) ?_
  refine kc_i (kr_V (As := [.int x]) (rest := []) hx hb hml hown hG (c_X7_isStar l D cy md (thr N 0) co su x) cf_X7_isStar wM_X7_98 hw.o rfl hw ⟨rfl, rfl, by decide, by decide⟩ rfl rfl (Nat.le_of_ble_eq_true rfl) ⟨Nat.le_of_ble_eq_true rfl, Nat.le_of_ble_eq_true rfl⟩ dX7_jump_7) ?_
  refine lv_if_ne (tgt := 19) hx hb dX7_jump_10 (by decide) (fun c_10 => ?_) (fun c_10 => ?_)
  · have c_10 : bI (pOut x 0 (nI ns - 1)) = 0 := by have h := mIs_t c_10; rw [show thr N 0 0 8 = nI ns from hN.1] at h; exact h
    obtain ⟨i, hi, ei⟩ := pOut_f hL.1 c_10
    subst ei
    have hbi := Nat.lt_of_lt_of_le hi hL.1
    refine lv_iload_n hx hb dX7_jump_19 rfl (lv_at hl 2 rfl) ?_
    refine lv_bipush (v := (-99)) hx hb dX7_jump_20 (by decide) ?_
    refine lv_bipush (v := 99) hx hb dX7_jump_22 (by decide) ?_
    refine kc_i (kr_S (As := [.int o, .int (-99), .int 99]) (rest := []) hx hb hml hown hG (c_X7_is l D cy o (-99) 99) cf_X7_is wM_X7_86 trivial ⟨rfl, rfl, by decide, by decide⟩ rfl rfl (Nat.le_of_ble_eq_true rfl) ⟨Nat.le_of_ble_eq_true rfl, Nat.le_of_ble_eq_true rfl⟩ dX7_jump_24) ?_
    refine lv_if_eq (tgt := 40) hx hb dX7_jump_27 (by decide) (fun c_27 => ?_) (fun c_27 => ?_)
    · have c_27 := mIs_f c_27
      refine lv_aload_n hx hb dX7_jump_40 rfl (lv_at hl 0 rfl) ?_
      refine lv_iconst (v := 2) hx hb dX7_jump_41 (by decide) ?_
      refine kc_ui (kr_V (As := [.int 2]) (rest := []) hx hb hml hown hG (c_X7_refuse l D cy md (thr N 0) co su hA 2) cf_X7_refuse wM_X7_95 hw.o rfl hw ⟨rfl, rfl, by decide, by decide⟩ rfl rfl (Nat.le_of_ble_eq_true rfl) ⟨Nat.le_of_ble_eq_true rfl, Nat.le_of_ble_eq_true rfl⟩ dX7_jump_42) hS (fun _ h => h) (fun r_42 H1 locs hp1 z1 oq1 hS => ?_)
      obtain ⟨e9, hw⟩ := hp1
      subst e9
      rw [thr_thr] at hw
      exact ke_ui hx hb hr hlk hS dX7_jump_45 (Or.inr (Or.inl ⟨by unfold kJump; rw [if_pos c_10, if_neg c_27], hw⟩))
    · have c_27 := mIs_t c_27
      refine lv_iload_n hx hb dX7_jump_30 rfl (lv_at hl 3 rfl) ?_
      refine lv_bipush (v := (-3)) hx hb dX7_jump_31 (by decide) ?_
      refine lv_iconst (v := 3) hx hb dX7_jump_33 (by decide) ?_
      refine kc_i (kr_S (As := [.int d, .int (-3), .int 3]) (rest := []) hx hb hml hown hG (c_X7_is l D cy d (-3) 3) cf_X7_is wM_X7_86 trivial ⟨rfl, rfl, by decide, by decide⟩ rfl rfl (Nat.le_of_ble_eq_true rfl) ⟨Nat.le_of_ble_eq_true rfl, Nat.le_of_ble_eq_true rfl⟩ dX7_jump_34) ?_
      refine lv_if_ne (tgt := 46) hx hb dX7_jump_37 (by decide) (fun c_37 => ?_) (fun c_37 => ?_)
      · have c_37 := mIs_t c_37
        refine lv_aload_n hx hb dX7_jump_46 rfl (lv_at hl 0 rfl) ?_
        refine k_get (ci := 7) (C := RX7) (T := TX7) (N := 20) (v := .ref (md 1)) hx hb hown hG rfl kin_X7 hw.o 3 (by decide) wF_X7_11 rfl dX7_jump_47 ?_
        refine lv_iload_n hx hb dX7_jump_50 rfl (lv_at hl 1 rfl) ?_
        refine k_ald2 (v := (md (10 + i))) hx hb hG 5 rfl hw.a1 (vp_in_nI (n := i) hbi (by decide)) (mo_st hbi) dX7_jump_51 ?_
        refine lv_iconst (v := 3) hx hb dX7_jump_52 (by decide) ?_
        refine lv_aload_n hx hb dX7_jump_53 rfl (lv_at hl 0 rfl) ?_
        refine k_get (ci := 7) (C := RX7) (T := TX7) (N := 20) (v := .ref (md 1)) hx hb hown hG rfl kin_X7 hw.o 3 (by decide) wF_X7_11 rfl dX7_jump_54 ?_
        refine lv_iload_n hx hb dX7_jump_57 rfl (lv_at hl 1 rfl) ?_
        refine k_ald2 (v := (md (10 + i))) hx hb hG 5 rfl hw.a1 (vp_in_nI (n := i) hbi (by decide)) (mo_st hbi) dX7_jump_58 ?_
        refine lv_iconst (v := 3) hx hb dX7_jump_59 (by decide) ?_
        refine k_iald (v := ((thr N 0 (10 + i)) 3)) hx hb hG (hw.st hbi) (show vp_in (nI 3) 6 from vp_in_nI (by decide) (by decide)) (congrArg (thr N 0 (10 + i)) (clI 3 (by decide))) dX7_jump_60 ?_
        refine lv_iload_n hx hb dX7_jump_61 rfl (lv_at hl 2 rfl) ?_
        refine lv_iadd hx hb dX7_jump_62 ?_
        refine lv_sipush (v := 999) hx hb dX7_jump_63 (by decide) ?_
        refine kc_i (kr_S (As := [.int (((thr N 0 (10 + i)) 3) + o), .int 999]) (rest := [.int 3, .ref (md (10 + i))]) hx hb hml hown hG (c_X7_held l D cy (((thr N 0 (10 + i)) 3) + o) 999) cf_X7_held wM_X7_102 trivial ⟨rfl, rfl, by decide, by decide⟩ rfl rfl (Nat.le_of_ble_eq_true rfl) ⟨Nat.le_of_ble_eq_true rfl, Nat.le_of_ble_eq_true rfl⟩ dX7_jump_66) ?_
        refine k_iast hx hb hG (hw.st hbi) hS (MA.i (mk_st hbi)) (show vp_in (nI 3) 6 from vp_in_nI (by decide) (by decide)) dX7_jump_69 (fun H1 locs hP1 z1 oq1 hS => ?_)
        rw [show Int32.toNatClampNeg 3 = 3 from clI 3 (by decide)] at hP1
        have hw := hw.setI hA (mk_st hbi) (ml_st hbi) hP1 oq1
        refine lv_aload_n hx hb dX7_jump_70 rfl (lv_at hl 0 rfl) ?_
        refine k_get (ci := 7) (C := RX7) (T := TX7) (N := 20) (v := .ref (md 1)) hx hb hown hG rfl kin_X7 (show va_P D vwCl [(md 0, .inr (7, [.int ((thr N 0 0) 0), .int ((thr N 0 0) 1), .int ((thr N 0 0) 2), .ref (md 1), .ref (md 2), .ref (md 3), .ref (md 4), .ref (md 5), .int ((thr N 0 0) 8), .int ((thr N 0 0) 9), .int ((thr N 0 0) 10), .ref (md 6), .ref (md 7), .ref (md 8), .ref (md 9), .int ((thr N 0 0) 15), .int ((thr N 0 0) 16), .int ((thr N 0 0) 17), .long co, .long su]))] _ from by have h := hw.o; unfold mO at h; rw [mset_n (show (0 : Nat) ≠ 10 + i by omega)] at h; exact h) 3 (by decide) wF_X7_11 rfl dX7_jump_71 ?_
        refine lv_iload_n hx hb dX7_jump_74 rfl (lv_at hl 1 rfl) ?_
        refine k_ald2 (v := (md (10 + i))) hx hb hG 5 rfl hw.a1 (vp_in_nI (n := i) hbi (by decide)) (mo_st hbi) dX7_jump_75 ?_
        refine lv_iconst (v := 4) hx hb dX7_jump_76 (by decide) ?_
        refine lv_iload_n hx hb dX7_jump_77 rfl (lv_at hl 3 rfl) ?_
        refine k_iast hx hb hG (show va_P D vwCl [(md (10 + i), .inl (cy 0, 6, .inl (upd (thr N 0 (10 + i)) 3 (pHeld (((thr N 0 (10 + i)) 3) + o) 999))))] _ from by have h := hw.st hbi; rw [mset_s] at h; exact h) hS (MA.i (mk_st hbi)) (show vp_in (nI 4) 6 from vp_in_nI (by decide) (by decide)) dX7_jump_78 (fun H1 locs hP1 z1 oq1 hS => ?_)
        rw [show Int32.toNatClampNeg 4 = 4 from clI 4 (by decide)] at hP1
        have hw := hw.setI hA (mk_st hbi) (ml_st hbi) hP1 oq1
        rw [mset_mset] at hw
        refine lv_aload_n hx hb dX7_jump_79 rfl (lv_at hl 0 rfl) ?_
        refine k_get (ci := 7) (C := RX7) (T := TX7) (N := 20) (v := .ref (md 1)) hx hb hown hG rfl kin_X7 (show va_P D vwCl [(md 0, .inr (7, [.int ((thr N 0 0) 0), .int ((thr N 0 0) 1), .int ((thr N 0 0) 2), .ref (md 1), .ref (md 2), .ref (md 3), .ref (md 4), .ref (md 5), .int ((thr N 0 0) 8), .int ((thr N 0 0) 9), .int ((thr N 0 0) 10), .ref (md 6), .ref (md 7), .ref (md 8), .ref (md 9), .int ((thr N 0 0) 15), .int ((thr N 0 0) 16), .int ((thr N 0 0) 17), .long co, .long su]))] _ from by have h := hw.o; unfold mO at h; rw [mset_n (show (0 : Nat) ≠ 10 + i by omega)] at h; exact h) 3 (by decide) wF_X7_11 rfl dX7_jump_80 ?_
        refine lv_iload_n hx hb dX7_jump_83 rfl (lv_at hl 1 rfl) ?_
        refine k_ald2 (v := (md (10 + i))) hx hb hG 5 rfl hw.a1 (vp_in_nI (n := i) hbi (by decide)) (mo_st hbi) dX7_jump_84 ?_
        refine lv_iconst (v := 3) hx hb dX7_jump_85 (by decide) ?_
        refine k_iald (v := ((upd (upd (thr N 0 (10 + i)) 3 (pHeld (((thr N 0 (10 + i)) 3) + o) 999)) 4 d) 3)) hx hb hG (show va_P D vwCl [(md (10 + i), .inl (cy 0, 6, .inl (upd (upd (thr N 0 (10 + i)) 3 (pHeld (((thr N 0 (10 + i)) 3) + o) 999)) 4 d)))] _ from by have h := hw.st hbi; rw [mset_s] at h; exact h) (show vp_in (nI 3) 6 from vp_in_nI (by decide) (by decide)) (congrArg (upd (upd (thr N 0 (10 + i)) 3 (pHeld (((thr N 0 (10 + i)) 3) + o) 999)) 4 d) (clI 3 (by decide))) dX7_jump_86 ?_
        exact ke_ui hx hb hr hlk hS dX7_jump_87 (Or.inr (Or.inr ⟨by unfold kJump; rw [if_pos c_10, if_pos c_27, if_pos c_37], i, hi, rfl, rfl, hw⟩))
      · have c_37 := mIs_f c_37
        refine lv_aload_n hx hb dX7_jump_40 rfl (lv_at hl 0 rfl) ?_
        refine lv_iconst (v := 2) hx hb dX7_jump_41 (by decide) ?_
        refine kc_ui (kr_V (As := [.int 2]) (rest := []) hx hb hml hown hG (c_X7_refuse l D cy md (thr N 0) co su hA 2) cf_X7_refuse wM_X7_95 hw.o rfl hw ⟨rfl, rfl, by decide, by decide⟩ rfl rfl (Nat.le_of_ble_eq_true rfl) ⟨Nat.le_of_ble_eq_true rfl, Nat.le_of_ble_eq_true rfl⟩ dX7_jump_42) hS (fun _ h => h) (fun r_42 H1 locs hp1 z1 oq1 hS => ?_)
        obtain ⟨e9, hw⟩ := hp1
        subst e9
        rw [thr_thr] at hw
        exact ke_ui hx hb hr hlk hS dX7_jump_45 (Or.inr (Or.inl ⟨by unfold kJump; rw [if_pos c_10, if_pos c_27, if_neg c_37], hw⟩))
  · have c_10 : ¬ bI (pOut x 0 (nI ns - 1)) = 0 := by have h := mIs_f c_10; rw [show thr N 0 0 8 = nI ns from hN.1] at h; exact h
    refine lv_aload_n hx hb dX7_jump_13 rfl (lv_at hl 0 rfl) ?_
    refine lv_iconst (v := 1) hx hb dX7_jump_14 (by decide) ?_
    refine kc_ui (kr_V (As := [.int 1]) (rest := []) hx hb hml hown hG (c_X7_refuse l D cy md (thr N 0) co su hA 1) cf_X7_refuse wM_X7_95 hw.o rfl hw ⟨rfl, rfl, by decide, by decide⟩ rfl rfl (Nat.le_of_ble_eq_true rfl) ⟨Nat.le_of_ble_eq_true rfl, Nat.le_of_ble_eq_true rfl⟩ dX7_jump_15) hS (fun _ h => h) (fun r_15 H1 locs hp1 z1 oq1 hS => ?_)
    obtain ⟨e9, hw⟩ := hp1
    subst e9
    rw [thr_thr] at hw
    exact ke_ui hx hb hr hlk hS dX7_jump_18 (Or.inl ⟨by unfold kJump; rw [if_neg c_10], hw⟩)
set_option maxHeartbeats 4000000 in
set_option maxRecDepth 100000 in
theorem c_X7_station (l : Launch) (D : va_G) (cy : Nat → ClassId) (md : Nat → Nat) (N : Nat → Nat → Int32) (co su : Int64) (hA : MI md) (ns nt nr : Nat) (hL : LB ns nt nr) (hN : MN N ns nt nr) (x d : Int32) : Met l yX7_station [.code yX7_station cX7_station 3 (some .int)] ({ frames := 1, cells := 0, slots := 0, locals := 22 } : Room) (PC D cy [.ref (md 0), .int x, .int d] (fun H => MW D cy md N co su H)) (UQi (MA md) (mOut D cy md N co su (kStn nt x d) (fun r H => nt < 3 ∧ r = nI nt ∧ MW D cy md (mset (mset (thr N 0) (30 + nt) (upd (upd (thr N 0 (30 + nt)) 0 x) 1 d)) 0 (upd (thr N 0 0) 9 (thr N 0 0 9 + 1))) co su H))) 0 0 (MA md) := by
  refine k_body (by decide +kernel) (Nat.le_of_ble_eq_true rfl) ?_
  intro p e s m below meth c ls hx hb hml hown hr hlk hmn hl hG hI
  have hml9 : c.maxLocals = 3 := hml.trans hl.1
  have hl : lv_has ls 3 [(0, .ref (md 0)), (1, .int x), (2, .int d)] := hl
  have hS : va_S (MA md) s.heap s.heap [] := va_S.rf
  have hw := hI
  refine lv_aload_n hx hb dX7_station_0 rfl (lv_at hl 0 rfl) ?_
  refine lv_iconst (v := 0) hx hb dX7_station_1 (by decide) ?_
  refine k_put (ci := 7) (C := RX7) (T := TX7) (N := 20) (v := .int 0) hx hb hown hG rfl kin_X7 tyX7 tyX7_ok nmX7 hw.o hS MA.o 0 (by decide) wF_X7_41 rfl rfl rfl (Nat.le_of_ble_eq_true rfl) dX7_station_2 (fun H1 locs hP1 z1 oq1 hS => ?_)
  have hw := hw.setO (r := (upd (N 0) 0 0)) (c' := co) (s' := su) hA hP1 oq1
  have hw : MW D cy md (thr N 0) co su H1 := hw
  refine lv_iload_n hx hb dX7_station_5 rfl (lv_at hl 1 rfl) ?_
  refine lv_bipush (v := (-50)) hx hb dX7_station_6 (by decide) ?_
  refine lv_bipush (v := 50) hx hb dX7_station_8 (by decide) ?_
  refine kc_i (kr_S (As := [.int x, .int (-50), .int 50]) (rest := []) hx hb hml hown hG (c_X7_is l D cy x (-50) 50) cf_X7_is wM_X7_86 trivial ⟨rfl, rfl, by decide, by decide⟩ rfl rfl (Nat.le_of_ble_eq_true rfl) ⟨Nat.le_of_ble_eq_true rfl, Nat.le_of_ble_eq_true rfl⟩ dX7_station_10) ?_
  refine lv_if_eq (tgt := 26) hx hb dX7_station_13 (by decide) (fun c_13 => ?_) (fun c_13 => ?_)
  · have c_13 := mIs_f c_13
    refine lv_aload_n hx hb dX7_station_26 rfl (lv_at hl 0 rfl) ?_
    refine lv_iconst (v := 1) hx hb dX7_station_27 (by decide) ?_
    refine kc_ui (kr_V (As := [.int 1]) (rest := []) hx hb hml hown hG (c_X7_refuse l D cy md (thr N 0) co su hA 1) cf_X7_refuse wM_X7_95 hw.o rfl hw ⟨rfl, rfl, by decide, by decide⟩ rfl rfl (Nat.le_of_ble_eq_true rfl) ⟨Nat.le_of_ble_eq_true rfl, Nat.le_of_ble_eq_true rfl⟩ dX7_station_28) hS (fun _ h => h) (fun r_28 H1 locs hp1 z1 oq1 hS => ?_)
    obtain ⟨e9, hw⟩ := hp1
    subst e9
    rw [thr_thr] at hw
    exact ke_ui hx hb hr hlk hS dX7_station_31 (Or.inl ⟨by unfold kStn; rw [if_neg c_13], hw⟩)
  · have c_13 := mIs_t c_13
    refine lv_iload_n hx hb dX7_station_16 rfl (lv_at hl 2 rfl) ?_
    refine lv_iconst (v := 0) hx hb dX7_station_17 (by decide) ?_
    refine lv_bipush (v := 9) hx hb dX7_station_18 (by decide) ?_
    refine kc_i (kr_S (As := [.int d, .int 0, .int 9]) (rest := []) hx hb hml hown hG (c_X7_is l D cy d 0 9) cf_X7_is wM_X7_86 trivial ⟨rfl, rfl, by decide, by decide⟩ rfl rfl (Nat.le_of_ble_eq_true rfl) ⟨Nat.le_of_ble_eq_true rfl, Nat.le_of_ble_eq_true rfl⟩ dX7_station_20) ?_
    refine lv_if_ne (tgt := 32) hx hb dX7_station_23 (by decide) (fun c_23 => ?_) (fun c_23 => ?_)
    · have c_23 := mIs_t c_23
      refine lv_aload_n hx hb dX7_station_32 rfl (lv_at hl 0 rfl) ?_
      refine k_get (ci := 7) (C := RX7) (T := TX7) (N := 20) (v := .int ((thr N 0 0) 9)) hx hb hown hG rfl kin_X7 hw.o 9 (by decide) wF_X7_89 rfl dX7_station_33 ?_
      refine lv_iconst (v := 3) hx hb dX7_station_36 (by decide) ?_
      refine lv_icmp_ne (tgt := 46) hx hb dX7_station_37 (by decide) (fun c_37 => ?_) (fun c_37 => ?_)
      · have c_37 : nI nt < 3 := mLt_t (m := 3) (by decide) hL.2.1 (by rw [show thr N 0 0 9 = nI nt from hN.2.1] at c_37; exact c_37)
        have hbnt : nt < 3 := (nI_ltI (by have := hL.2.1; omega) (by decide)).mp (show nI nt < nI 3 from c_37)
        refine lv_aload_n hx hb dX7_station_46 rfl (lv_at hl 0 rfl) ?_
        refine k_get (ci := 7) (C := RX7) (T := TX7) (N := 20) (v := .ref (md 3)) hx hb hown hG rfl kin_X7 hw.o 5 (by decide) wF_X7_17 rfl dX7_station_47 ?_
        refine lv_aload_n hx hb dX7_station_50 rfl (lv_at hl 0 rfl) ?_
        refine k_get (ci := 7) (C := RX7) (T := TX7) (N := 20) (v := .int ((thr N 0 0) 9)) hx hb hown hG rfl kin_X7 hw.o 9 (by decide) wF_X7_89 rfl dX7_station_51 ?_
        refine k_ald2 (v := (md (30 + nt))) hx hb hG 5 rfl hw.a3 (by rw [(show thr N 0 0 9 = nI nt from hN.2.1)]; exact vp_in_nI (n := nt) hbnt (by decide)) (by rw [(show thr N 0 0 9 = nI nt from hN.2.1)]; exact mo_sn hbnt) dX7_station_54 ?_
        refine lv_iconst (v := 0) hx hb dX7_station_55 (by decide) ?_
        refine lv_iload_n hx hb dX7_station_56 rfl (lv_at hl 1 rfl) ?_
        refine k_iast hx hb hG (hw.sn hbnt) hS (MA.i (mk_sn hbnt)) (show vp_in (nI 0) 2 from vp_in_nI (by decide) (by decide)) dX7_station_57 (fun H1 locs hP1 z1 oq1 hS => ?_)
        rw [show Int32.toNatClampNeg 0 = 0 from clI 0 (by decide)] at hP1
        have hw := hw.setI hA (mk_sn hbnt) (ml_sn hbnt) hP1 oq1
        refine lv_aload_n hx hb dX7_station_58 rfl (lv_at hl 0 rfl) ?_
        refine k_get (ci := 7) (C := RX7) (T := TX7) (N := 20) (v := .ref (md 3)) hx hb hown hG rfl kin_X7 (show va_P D vwCl [(md 0, .inr (7, [.int ((thr N 0 0) 0), .int ((thr N 0 0) 1), .int ((thr N 0 0) 2), .ref (md 1), .ref (md 2), .ref (md 3), .ref (md 4), .ref (md 5), .int ((thr N 0 0) 8), .int ((thr N 0 0) 9), .int ((thr N 0 0) 10), .ref (md 6), .ref (md 7), .ref (md 8), .ref (md 9), .int ((thr N 0 0) 15), .int ((thr N 0 0) 16), .int ((thr N 0 0) 17), .long co, .long su]))] _ from by have h := hw.o; unfold mO at h; rw [mset_n (show (0 : Nat) ≠ 30 + nt by omega)] at h; exact h) 5 (by decide) wF_X7_17 rfl dX7_station_59 ?_
        refine lv_aload_n hx hb dX7_station_62 rfl (lv_at hl 0 rfl) ?_
        refine k_get (ci := 7) (C := RX7) (T := TX7) (N := 20) (v := .int ((thr N 0 0) 9)) hx hb hown hG rfl kin_X7 (show va_P D vwCl [(md 0, .inr (7, [.int ((thr N 0 0) 0), .int ((thr N 0 0) 1), .int ((thr N 0 0) 2), .ref (md 1), .ref (md 2), .ref (md 3), .ref (md 4), .ref (md 5), .int ((thr N 0 0) 8), .int ((thr N 0 0) 9), .int ((thr N 0 0) 10), .ref (md 6), .ref (md 7), .ref (md 8), .ref (md 9), .int ((thr N 0 0) 15), .int ((thr N 0 0) 16), .int ((thr N 0 0) 17), .long co, .long su]))] _ from by have h := hw.o; unfold mO at h; rw [mset_n (show (0 : Nat) ≠ 30 + nt by omega)] at h; exact h) 9 (by decide) wF_X7_89 rfl dX7_station_63 ?_
        refine k_ald2 (v := (md (30 + nt))) hx hb hG 5 rfl hw.a3 (by rw [(show thr N 0 0 9 = nI nt from hN.2.1)]; exact vp_in_nI (n := nt) hbnt (by decide)) (by rw [(show thr N 0 0 9 = nI nt from hN.2.1)]; exact mo_sn hbnt) dX7_station_66 ?_
        refine lv_iconst (v := 1) hx hb dX7_station_67 (by decide) ?_
        refine lv_iload_n hx hb dX7_station_68 rfl (lv_at hl 2 rfl) ?_
        refine k_iast hx hb hG (show va_P D vwCl [(md (30 + nt), .inl (cy 0, 2, .inl (upd (thr N 0 (30 + nt)) 0 x)))] _ from by have h := hw.sn hbnt; rw [mset_s] at h; exact h) hS (MA.i (mk_sn hbnt)) (show vp_in (nI 1) 2 from vp_in_nI (by decide) (by decide)) dX7_station_69 (fun H1 locs hP1 z1 oq1 hS => ?_)
        rw [show Int32.toNatClampNeg 1 = 1 from clI 1 (by decide)] at hP1
        have hw := hw.setI hA (mk_sn hbnt) (ml_sn hbnt) hP1 oq1
        rw [mset_mset] at hw
        refine lv_aload_n hx hb dX7_station_70 rfl (lv_at hl 0 rfl) ?_
        refine lv_dup hx hb dX7_station_71 rfl ?_
        refine k_get (ci := 7) (C := RX7) (T := TX7) (N := 20) (v := .int ((thr N 0 0) 9)) hx hb hown hG rfl kin_X7 (show va_P D vwCl [(md 0, .inr (7, [.int ((thr N 0 0) 0), .int ((thr N 0 0) 1), .int ((thr N 0 0) 2), .ref (md 1), .ref (md 2), .ref (md 3), .ref (md 4), .ref (md 5), .int ((thr N 0 0) 8), .int ((thr N 0 0) 9), .int ((thr N 0 0) 10), .ref (md 6), .ref (md 7), .ref (md 8), .ref (md 9), .int ((thr N 0 0) 15), .int ((thr N 0 0) 16), .int ((thr N 0 0) 17), .long co, .long su]))] _ from by have h := hw.o; unfold mO at h; rw [mset_n (show (0 : Nat) ≠ 30 + nt by omega)] at h; exact h) 9 (by decide) wF_X7_89 rfl dX7_station_72 ?_
        refine lv_iconst (v := 1) hx hb dX7_station_75 (by decide) ?_
        refine lv_iadd hx hb dX7_station_76 ?_
        refine k_put (ci := 7) (C := RX7) (T := TX7) (N := 20) (v := .int (((thr N 0 0) 9) + 1)) hx hb hown hG rfl kin_X7 tyX7 tyX7_ok nmX7 (show va_P D vwCl [(md 0, .inr (7, [.int ((thr N 0 0) 0), .int ((thr N 0 0) 1), .int ((thr N 0 0) 2), .ref (md 1), .ref (md 2), .ref (md 3), .ref (md 4), .ref (md 5), .int ((thr N 0 0) 8), .int ((thr N 0 0) 9), .int ((thr N 0 0) 10), .ref (md 6), .ref (md 7), .ref (md 8), .ref (md 9), .int ((thr N 0 0) 15), .int ((thr N 0 0) 16), .int ((thr N 0 0) 17), .long co, .long su]))] _ from by have h := hw.o; unfold mO at h; rw [mset_n (show (0 : Nat) ≠ 30 + nt by omega)] at h; exact h) hS MA.o 9 (by decide) wF_X7_89 rfl rfl rfl (Nat.le_of_ble_eq_true rfl) dX7_station_77 (fun H1 locs hP1 z1 oq1 hS => ?_)
        have hw := hw.setO (r := (upd (thr N 0 0) 9 (((thr N 0 0) 9) + 1))) (c' := co) (s' := su) hA hP1 oq1
        refine lv_aload_n hx hb dX7_station_80 rfl (lv_at hl 0 rfl) ?_
        refine k_get (ci := 7) (C := RX7) (T := TX7) (N := 20) (v := .int ((upd (thr N 0 0) 9 (((thr N 0 0) 9) + 1)) 9)) hx hb hown hG rfl kin_X7 (show va_P D vwCl [(md 0, .inr (7, [.int ((upd (thr N 0 0) 9 (((thr N 0 0) 9) + 1)) 0), .int ((upd (thr N 0 0) 9 (((thr N 0 0) 9) + 1)) 1), .int ((upd (thr N 0 0) 9 (((thr N 0 0) 9) + 1)) 2), .ref (md 1), .ref (md 2), .ref (md 3), .ref (md 4), .ref (md 5), .int ((upd (thr N 0 0) 9 (((thr N 0 0) 9) + 1)) 8), .int ((upd (thr N 0 0) 9 (((thr N 0 0) 9) + 1)) 9), .int ((upd (thr N 0 0) 9 (((thr N 0 0) 9) + 1)) 10), .ref (md 6), .ref (md 7), .ref (md 8), .ref (md 9), .int ((upd (thr N 0 0) 9 (((thr N 0 0) 9) + 1)) 15), .int ((upd (thr N 0 0) 9 (((thr N 0 0) 9) + 1)) 16), .int ((upd (thr N 0 0) 9 (((thr N 0 0) 9) + 1)) 17), .long co, .long su]))] _ from by have h := hw.o; unfold mO at h; rw [mset_s] at h; exact h) 9 (by decide) wF_X7_89 rfl dX7_station_81 ?_
        refine lv_iconst (v := 1) hx hb dX7_station_84 (by decide) ?_
        refine lv_isub hx hb dX7_station_85 ?_
        exact ke_ui hx hb hr hlk hS dX7_station_86 (Or.inr (Or.inr ⟨by unfold kStn; rw [if_pos c_13, if_pos c_23, if_pos c_37], hbnt, (by show thr N 0 0 9 + 1 - 1 = nI nt; rw [show thr N 0 0 9 = nI nt from hN.2.1, ← nI_succ]; exact nI_pred nt), hw⟩))
      · have c_37 : ¬ nI nt < 3 := mLt_f (m := 3) (by rw [show thr N 0 0 9 = nI nt from hN.2.1] at c_37; exact c_37)
        refine lv_aload_n hx hb dX7_station_40 rfl (lv_at hl 0 rfl) ?_
        refine lv_iconst (v := 2) hx hb dX7_station_41 (by decide) ?_
        refine kc_ui (kr_V (As := [.int 2]) (rest := []) hx hb hml hown hG (c_X7_refuse l D cy md (thr N 0) co su hA 2) cf_X7_refuse wM_X7_95 hw.o rfl hw ⟨rfl, rfl, by decide, by decide⟩ rfl rfl (Nat.le_of_ble_eq_true rfl) ⟨Nat.le_of_ble_eq_true rfl, Nat.le_of_ble_eq_true rfl⟩ dX7_station_42) hS (fun _ h => h) (fun r_42 H1 locs hp1 z1 oq1 hS => ?_)
        obtain ⟨e9, hw⟩ := hp1
        subst e9
        rw [thr_thr] at hw
        exact ke_ui hx hb hr hlk hS dX7_station_45 (Or.inr (Or.inl ⟨by unfold kStn; rw [if_pos c_13, if_pos c_23, if_neg c_37], hw⟩))
    · have c_23 := mIs_f c_23
      refine lv_aload_n hx hb dX7_station_26 rfl (lv_at hl 0 rfl) ?_
      refine lv_iconst (v := 1) hx hb dX7_station_27 (by decide) ?_
      refine kc_ui (kr_V (As := [.int 1]) (rest := []) hx hb hml hown hG (c_X7_refuse l D cy md (thr N 0) co su hA 1) cf_X7_refuse wM_X7_95 hw.o rfl hw ⟨rfl, rfl, by decide, by decide⟩ rfl rfl (Nat.le_of_ble_eq_true rfl) ⟨Nat.le_of_ble_eq_true rfl, Nat.le_of_ble_eq_true rfl⟩ dX7_station_28) hS (fun _ h => h) (fun r_28 H1 locs hp1 z1 oq1 hS => ?_)
      obtain ⟨e9, hw⟩ := hp1
      subst e9
      rw [thr_thr] at hw
      exact ke_ui hx hb hr hlk hS dX7_station_31 (Or.inl ⟨by unfold kStn; rw [if_pos c_13, if_neg c_23], hw⟩)
set_option maxHeartbeats 4000000 in
set_option maxRecDepth 100000 in
theorem c_X7_star (l : Launch) (D : va_G) (cy : Nat → ClassId) (md : Nat → Nat) (N : Nat → Nat → Int32) (co su : Int64) (hA : MI md) (ns nt nr : Nat) (hL : LB ns nt nr) (hN : MN N ns nt nr) (ra ph sp of dr : Int32) : Met l yX7_star [.code yX7_star cX7_star 7 (some .int)] ({ frames := 1, cells := 0, slots := 0, locals := 22 } : Room) (PC D cy [.ref (md 0), .int ra, .int ph, .int sp, .int of, .int dr] (fun H => MW D cy md N co su H)) (UQi (MA md) (mOut D cy md N co su (kStar ns ra ph sp of dr) (fun r H => ns < 8 ∧ r = nI ns ∧ MW D cy md (mStarN (thr N 0) ns ra ph sp of dr) co su H))) 0 0 (MA md) := by
  refine k_body (by decide +kernel) (Nat.le_of_ble_eq_true rfl) ?_
  intro p e s m below meth c ls hx hb hml hown hr hlk hmn hl hG hI
  have hml9 : c.maxLocals = 7 := hml.trans hl.1
  have hl : lv_has ls 7 [(0, .ref (md 0)), (1, .int ra), (2, .int ph), (3, .int sp), (4, .int of), (5, .int dr)] := hl
  have hS : va_S (MA md) s.heap s.heap [] := va_S.rf
  have hw := hI
  refine lv_aload_n hx hb dX7_star_0 rfl (lv_at hl 0 rfl) ?_
  refine lv_iconst (v := 0) hx hb dX7_star_1 (by decide) ?_
  refine k_put (ci := 7) (C := RX7) (T := TX7) (N := 20) (v := .int 0) hx hb hown hG rfl kin_X7 tyX7 tyX7_ok nmX7 hw.o hS MA.o 0 (by decide) wF_X7_41 rfl rfl rfl (Nat.le_of_ble_eq_true rfl) dX7_star_2 (fun H1 locs hP1 z1 oq1 hS => ?_)
  have hw := hw.setO (r := (upd (N 0) 0 0)) (c' := co) (s' := su) hA hP1 oq1
  have hw : MW D cy md (thr N 0) co su H1 := hw
  refine lv_iload_n hx hb dX7_star_5 rfl (lv_at hl 1 rfl) ?_
  refine lv_bipush (v := 60) hx hb dX7_star_6 (by decide) ?_
  refine lv_sipush (v := 200) hx hb dX7_star_8 (by decide) ?_
  refine kc_i (kr_S (As := [.int ra, .int 60, .int 200]) (rest := []) hx hb hml hown hG (c_X7_is l D cy ra 60 200) cf_X7_is wM_X7_86 trivial ⟨rfl, rfl, by decide, by decide⟩ rfl rfl (Nat.le_of_ble_eq_true rfl) ⟨Nat.le_of_ble_eq_true rfl, Nat.le_of_ble_eq_true rfl⟩ dX7_star_11) ?_
  refine lv_if_eq (tgt := 62) hx hb dX7_star_14 (by decide) (fun c_14 => ?_) (fun c_14 => ?_)
  · have c_14 := mIs_f c_14
    refine lv_aload_n hx hb dX7_star_62 rfl (lv_at hl 0 rfl) ?_
    refine lv_iconst (v := 1) hx hb dX7_star_63 (by decide) ?_
    refine kc_ui (kr_V (As := [.int 1]) (rest := []) hx hb hml hown hG (c_X7_refuse l D cy md (thr N 0) co su hA 1) cf_X7_refuse wM_X7_95 hw.o rfl hw ⟨rfl, rfl, by decide, by decide⟩ rfl rfl (Nat.le_of_ble_eq_true rfl) ⟨Nat.le_of_ble_eq_true rfl, Nat.le_of_ble_eq_true rfl⟩ dX7_star_64) hS (fun _ h => h) (fun r_64 H1 locs hp1 z1 oq1 hS => ?_)
    obtain ⟨e9, hw⟩ := hp1
    subst e9
    rw [thr_thr] at hw
    exact ke_ui hx hb hr hlk hS dX7_star_67 (Or.inl ⟨by unfold kStar; rw [if_neg c_14], hw⟩)
  · have c_14 := mIs_t c_14
    refine lv_iload_n hx hb dX7_star_17 rfl (lv_at hl 2 rfl) ?_
    refine lv_iconst (v := 0) hx hb dX7_star_18 (by decide) ?_
    refine lv_bipush (v := 47) hx hb dX7_star_19 (by decide) ?_
    refine kc_i (kr_S (As := [.int ph, .int 0, .int 47]) (rest := []) hx hb hml hown hG (c_X7_is l D cy ph 0 47) cf_X7_is wM_X7_86 trivial ⟨rfl, rfl, by decide, by decide⟩ rfl rfl (Nat.le_of_ble_eq_true rfl) ⟨Nat.le_of_ble_eq_true rfl, Nat.le_of_ble_eq_true rfl⟩ dX7_star_21) ?_
    refine lv_if_eq (tgt := 62) hx hb dX7_star_24 (by decide) (fun c_24 => ?_) (fun c_24 => ?_)
    · have c_24 := mIs_f c_24
      refine lv_aload_n hx hb dX7_star_62 rfl (lv_at hl 0 rfl) ?_
      refine lv_iconst (v := 1) hx hb dX7_star_63 (by decide) ?_
      refine kc_ui (kr_V (As := [.int 1]) (rest := []) hx hb hml hown hG (c_X7_refuse l D cy md (thr N 0) co su hA 1) cf_X7_refuse wM_X7_95 hw.o rfl hw ⟨rfl, rfl, by decide, by decide⟩ rfl rfl (Nat.le_of_ble_eq_true rfl) ⟨Nat.le_of_ble_eq_true rfl, Nat.le_of_ble_eq_true rfl⟩ dX7_star_64) hS (fun _ h => h) (fun r_64 H1 locs hp1 z1 oq1 hS => ?_)
      obtain ⟨e9, hw⟩ := hp1
      subst e9
      rw [thr_thr] at hw
      exact ke_ui hx hb hr hlk hS dX7_star_67 (Or.inl ⟨by unfold kStar; rw [if_pos c_14, if_neg c_24], hw⟩)
    · have c_24 := mIs_t c_24
      refine lv_iload_n hx hb dX7_star_27 rfl (lv_at hl 3 rfl) ?_
      refine lv_bipush (v := (-3)) hx hb dX7_star_28 (by decide) ?_
      refine lv_iconst (v := 3) hx hb dX7_star_30 (by decide) ?_
      refine kc_i (kr_S (As := [.int sp, .int (-3), .int 3]) (rest := []) hx hb hml hown hG (c_X7_is l D cy sp (-3) 3) cf_X7_is wM_X7_86 trivial ⟨rfl, rfl, by decide, by decide⟩ rfl rfl (Nat.le_of_ble_eq_true rfl) ⟨Nat.le_of_ble_eq_true rfl, Nat.le_of_ble_eq_true rfl⟩ dX7_star_31) ?_
      refine lv_if_eq (tgt := 62) hx hb dX7_star_34 (by decide) (fun c_34 => ?_) (fun c_34 => ?_)
      · have c_34 := mIs_f c_34
        refine lv_aload_n hx hb dX7_star_62 rfl (lv_at hl 0 rfl) ?_
        refine lv_iconst (v := 1) hx hb dX7_star_63 (by decide) ?_
        refine kc_ui (kr_V (As := [.int 1]) (rest := []) hx hb hml hown hG (c_X7_refuse l D cy md (thr N 0) co su hA 1) cf_X7_refuse wM_X7_95 hw.o rfl hw ⟨rfl, rfl, by decide, by decide⟩ rfl rfl (Nat.le_of_ble_eq_true rfl) ⟨Nat.le_of_ble_eq_true rfl, Nat.le_of_ble_eq_true rfl⟩ dX7_star_64) hS (fun _ h => h) (fun r_64 H1 locs hp1 z1 oq1 hS => ?_)
        obtain ⟨e9, hw⟩ := hp1
        subst e9
        rw [thr_thr] at hw
        exact ke_ui hx hb hr hlk hS dX7_star_67 (Or.inl ⟨by unfold kStar; rw [if_pos c_14, if_pos c_24, if_neg c_34], hw⟩)
      · have c_34 := mIs_t c_34
        refine lv_iload hx hb dX7_star_37 (lv_at hl 4 rfl) ?_
        refine lv_sipush (v := (-500)) hx hb dX7_star_39 (by decide) ?_
        refine lv_sipush (v := 500) hx hb dX7_star_42 (by decide) ?_
        refine kc_i (kr_S (As := [.int of, .int (-500), .int 500]) (rest := []) hx hb hml hown hG (c_X7_is l D cy of (-500) 500) cf_X7_is wM_X7_86 trivial ⟨rfl, rfl, by decide, by decide⟩ rfl rfl (Nat.le_of_ble_eq_true rfl) ⟨Nat.le_of_ble_eq_true rfl, Nat.le_of_ble_eq_true rfl⟩ dX7_star_45) ?_
        refine lv_if_eq (tgt := 62) hx hb dX7_star_48 (by decide) (fun c_48 => ?_) (fun c_48 => ?_)
        · have c_48 := mIs_f c_48
          refine lv_aload_n hx hb dX7_star_62 rfl (lv_at hl 0 rfl) ?_
          refine lv_iconst (v := 1) hx hb dX7_star_63 (by decide) ?_
          refine kc_ui (kr_V (As := [.int 1]) (rest := []) hx hb hml hown hG (c_X7_refuse l D cy md (thr N 0) co su hA 1) cf_X7_refuse wM_X7_95 hw.o rfl hw ⟨rfl, rfl, by decide, by decide⟩ rfl rfl (Nat.le_of_ble_eq_true rfl) ⟨Nat.le_of_ble_eq_true rfl, Nat.le_of_ble_eq_true rfl⟩ dX7_star_64) hS (fun _ h => h) (fun r_64 H1 locs hp1 z1 oq1 hS => ?_)
          obtain ⟨e9, hw⟩ := hp1
          subst e9
          rw [thr_thr] at hw
          exact ke_ui hx hb hr hlk hS dX7_star_67 (Or.inl ⟨by unfold kStar; rw [if_pos c_14, if_pos c_24, if_pos c_34, if_neg c_48], hw⟩)
        · have c_48 := mIs_t c_48
          refine lv_iload hx hb dX7_star_51 (lv_at hl 5 rfl) ?_
          refine lv_bipush (v := (-3)) hx hb dX7_star_53 (by decide) ?_
          refine lv_iconst (v := 3) hx hb dX7_star_55 (by decide) ?_
          refine kc_i (kr_S (As := [.int dr, .int (-3), .int 3]) (rest := []) hx hb hml hown hG (c_X7_is l D cy dr (-3) 3) cf_X7_is wM_X7_86 trivial ⟨rfl, rfl, by decide, by decide⟩ rfl rfl (Nat.le_of_ble_eq_true rfl) ⟨Nat.le_of_ble_eq_true rfl, Nat.le_of_ble_eq_true rfl⟩ dX7_star_56) ?_
          refine lv_if_ne (tgt := 68) hx hb dX7_star_59 (by decide) (fun c_59 => ?_) (fun c_59 => ?_)
          · have c_59 := mIs_t c_59
            refine lv_aload_n hx hb dX7_star_68 rfl (lv_at hl 0 rfl) ?_
            refine k_get (ci := 7) (C := RX7) (T := TX7) (N := 20) (v := .int ((thr N 0 0) 8)) hx hb hown hG rfl kin_X7 hw.o 8 (by decide) wF_X7_79 rfl dX7_star_69 ?_
            refine lv_bipush (v := 8) hx hb dX7_star_72 (by decide) ?_
            refine lv_icmp_ne (tgt := 83) hx hb dX7_star_74 (by decide) (fun c_74 => ?_) (fun c_74 => ?_)
            · have c_74 : nI ns < 8 := mLt_t (m := 8) (by decide) hL.1 (by rw [show thr N 0 0 8 = nI ns from hN.1] at c_74; exact c_74)
              have hbns : ns < 8 := (nI_ltI (by have := hL.1; omega) (by decide)).mp (show nI ns < nI 8 from c_74)
              refine lv_aload_n hx hb dX7_star_83 rfl (lv_at hl 0 rfl) ?_
              refine k_get (ci := 7) (C := RX7) (T := TX7) (N := 20) (v := .ref (md 1)) hx hb hown hG rfl kin_X7 hw.o 3 (by decide) wF_X7_11 rfl dX7_star_84 ?_
              refine lv_aload_n hx hb dX7_star_87 rfl (lv_at hl 0 rfl) ?_
              refine k_get (ci := 7) (C := RX7) (T := TX7) (N := 20) (v := .int ((thr N 0 0) 8)) hx hb hown hG rfl kin_X7 hw.o 8 (by decide) wF_X7_79 rfl dX7_star_88 ?_
              refine k_ald2 (v := (md (10 + ns))) hx hb hG 5 rfl hw.a1 (by rw [(show thr N 0 0 8 = nI ns from hN.1)]; exact vp_in_nI (n := ns) hbns (by decide)) (by rw [(show thr N 0 0 8 = nI ns from hN.1)]; exact mo_st hbns) dX7_star_91 ?_
              refine lv_astore (lv' := [(6, .ref (md (10 + ns))), (0, .ref (md 0)), (1, .int ra), (2, .int ph), (3, .int sp), (4, .int of), (5, .int dr)]) hx hb dX7_star_92 hl (by decide) rfl (fun ls hl => ?_)
              have hml : c.maxLocals = ls.size := hml9.trans hl.1.symm
              refine lv_aload hx hb dX7_star_94 (lv_at hl 0 rfl) ?_
              refine lv_iconst (v := 0) hx hb dX7_star_96 (by decide) ?_
              refine lv_iload_n hx hb dX7_star_97 rfl (lv_at hl 2 rfl) ?_
              refine k_iast hx hb hG (hw.st hbns) hS (MA.i (mk_st hbns)) (show vp_in (nI 0) 6 from vp_in_nI (by decide) (by decide)) dX7_star_98 (fun H1 locs hP1 z1 oq1 hS => ?_)
              rw [show Int32.toNatClampNeg 0 = 0 from clI 0 (by decide)] at hP1
              have hw := hw.setI hA (mk_st hbns) (ml_st hbns) hP1 oq1
              refine lv_aload hx hb dX7_star_99 (lv_at hl 0 rfl) ?_
              refine lv_iconst (v := 1) hx hb dX7_star_101 (by decide) ?_
              refine lv_iload_n hx hb dX7_star_102 rfl (lv_at hl 3 rfl) ?_
              refine k_iast hx hb hG (show va_P D vwCl [(md (10 + ns), .inl (cy 0, 6, .inl (upd (thr N 0 (10 + ns)) 0 ra)))] _ from by have h := hw.st hbns; rw [mset_s] at h; exact h) hS (MA.i (mk_st hbns)) (show vp_in (nI 1) 6 from vp_in_nI (by decide) (by decide)) dX7_star_103 (fun H1 locs hP1 z1 oq1 hS => ?_)
              rw [show Int32.toNatClampNeg 1 = 1 from clI 1 (by decide)] at hP1
              have hw := hw.setI hA (mk_st hbns) (ml_st hbns) hP1 oq1
              rw [mset_mset] at hw
              refine lv_aload hx hb dX7_star_104 (lv_at hl 0 rfl) ?_
              refine lv_iconst (v := 2) hx hb dX7_star_106 (by decide) ?_
              refine lv_iload_n hx hb dX7_star_107 rfl (lv_at hl 4 rfl) ?_
              refine k_iast hx hb hG (show va_P D vwCl [(md (10 + ns), .inl (cy 0, 6, .inl (upd (upd (thr N 0 (10 + ns)) 0 ra) 1 ph)))] _ from by have h := hw.st hbns; rw [mset_s] at h; exact h) hS (MA.i (mk_st hbns)) (show vp_in (nI 2) 6 from vp_in_nI (by decide) (by decide)) dX7_star_108 (fun H1 locs hP1 z1 oq1 hS => ?_)
              rw [show Int32.toNatClampNeg 2 = 2 from clI 2 (by decide)] at hP1
              have hw := hw.setI hA (mk_st hbns) (ml_st hbns) hP1 oq1
              rw [mset_mset] at hw
              refine lv_aload hx hb dX7_star_109 (lv_at hl 0 rfl) ?_
              refine lv_iconst (v := 3) hx hb dX7_star_111 (by decide) ?_
              refine lv_iload hx hb dX7_star_112 (lv_at hl 5 rfl) ?_
              refine k_iast hx hb hG (show va_P D vwCl [(md (10 + ns), .inl (cy 0, 6, .inl (upd (upd (upd (thr N 0 (10 + ns)) 0 ra) 1 ph) 2 sp)))] _ from by have h := hw.st hbns; rw [mset_s] at h; exact h) hS (MA.i (mk_st hbns)) (show vp_in (nI 3) 6 from vp_in_nI (by decide) (by decide)) dX7_star_114 (fun H1 locs hP1 z1 oq1 hS => ?_)
              rw [show Int32.toNatClampNeg 3 = 3 from clI 3 (by decide)] at hP1
              have hw := hw.setI hA (mk_st hbns) (ml_st hbns) hP1 oq1
              rw [mset_mset] at hw
              refine lv_aload hx hb dX7_star_115 (lv_at hl 0 rfl) ?_
              refine lv_iconst (v := 4) hx hb dX7_star_117 (by decide) ?_
              refine lv_iload hx hb dX7_star_118 (lv_at hl 6 rfl) ?_
              refine k_iast hx hb hG (show va_P D vwCl [(md (10 + ns), .inl (cy 0, 6, .inl (upd (upd (upd (upd (thr N 0 (10 + ns)) 0 ra) 1 ph) 2 sp) 3 of)))] _ from by have h := hw.st hbns; rw [mset_s] at h; exact h) hS (MA.i (mk_st hbns)) (show vp_in (nI 4) 6 from vp_in_nI (by decide) (by decide)) dX7_star_120 (fun H1 locs hP1 z1 oq1 hS => ?_)
              rw [show Int32.toNatClampNeg 4 = 4 from clI 4 (by decide)] at hP1
              have hw := hw.setI hA (mk_st hbns) (ml_st hbns) hP1 oq1
              rw [mset_mset] at hw
              refine lv_aload hx hb dX7_star_121 (lv_at hl 0 rfl) ?_
              refine lv_iconst (v := 5) hx hb dX7_star_123 (by decide) ?_
              refine lv_iconst (v := 1) hx hb dX7_star_124 (by decide) ?_
              refine k_iast hx hb hG (show va_P D vwCl [(md (10 + ns), .inl (cy 0, 6, .inl (upd (upd (upd (upd (upd (thr N 0 (10 + ns)) 0 ra) 1 ph) 2 sp) 3 of) 4 dr)))] _ from by have h := hw.st hbns; rw [mset_s] at h; exact h) hS (MA.i (mk_st hbns)) (show vp_in (nI 5) 6 from vp_in_nI (by decide) (by decide)) dX7_star_125 (fun H1 locs hP1 z1 oq1 hS => ?_)
              rw [show Int32.toNatClampNeg 5 = 5 from clI 5 (by decide)] at hP1
              have hw := hw.setI hA (mk_st hbns) (ml_st hbns) hP1 oq1
              rw [mset_mset] at hw
              refine lv_aload_n hx hb dX7_star_126 rfl (lv_at hl 1 rfl) ?_
              refine k_get (ci := 7) (C := RX7) (T := TX7) (N := 20) (v := .ref (md 2)) hx hb hown hG rfl kin_X7 (show va_P D vwCl [(md 0, .inr (7, [.int ((thr N 0 0) 0), .int ((thr N 0 0) 1), .int ((thr N 0 0) 2), .ref (md 1), .ref (md 2), .ref (md 3), .ref (md 4), .ref (md 5), .int ((thr N 0 0) 8), .int ((thr N 0 0) 9), .int ((thr N 0 0) 10), .ref (md 6), .ref (md 7), .ref (md 8), .ref (md 9), .int ((thr N 0 0) 15), .int ((thr N 0 0) 16), .int ((thr N 0 0) 17), .long co, .long su]))] _ from by have h := hw.o; unfold mO at h; rw [mset_n (show (0 : Nat) ≠ 10 + ns by omega)] at h; exact h) 4 (by decide) wF_X7_14 rfl dX7_star_127 ?_
              refine lv_aload_n hx hb dX7_star_130 rfl (lv_at hl 1 rfl) ?_
              refine k_get (ci := 7) (C := RX7) (T := TX7) (N := 20) (v := .int ((thr N 0 0) 8)) hx hb hown hG rfl kin_X7 (show va_P D vwCl [(md 0, .inr (7, [.int ((thr N 0 0) 0), .int ((thr N 0 0) 1), .int ((thr N 0 0) 2), .ref (md 1), .ref (md 2), .ref (md 3), .ref (md 4), .ref (md 5), .int ((thr N 0 0) 8), .int ((thr N 0 0) 9), .int ((thr N 0 0) 10), .ref (md 6), .ref (md 7), .ref (md 8), .ref (md 9), .int ((thr N 0 0) 15), .int ((thr N 0 0) 16), .int ((thr N 0 0) 17), .long co, .long su]))] _ from by have h := hw.o; unfold mO at h; rw [mset_n (show (0 : Nat) ≠ 10 + ns by omega)] at h; exact h) 8 (by decide) wF_X7_79 rfl dX7_star_131 ?_
              refine k_ald2 (v := (md (20 + ns))) hx hb hG 5 rfl hw.a2 (by rw [(show thr N 0 0 8 = nI ns from hN.1)]; exact vp_in_nI (n := ns) hbns (by decide)) (by rw [(show thr N 0 0 8 = nI ns from hN.1)]; exact mo_ms hbns) dX7_star_134 ?_
              refine lv_iconst (v := 1) hx hb dX7_star_135 (by decide) ?_
              refine lv_iconst (v := (-1)) hx hb dX7_star_136 (by decide) ?_
              refine k_iast hx hb hG (show va_P D vwCl [(md (20 + ns), .inl (cy 0, 5, .inl (thr N 0 (20 + ns))))] _ from by have h := hw.ms hbns; rw [mset_n (show (20 + ns : Nat) ≠ 10 + ns by omega)] at h; exact h) hS (MA.i (mk_ms hbns)) (show vp_in (nI 1) 5 from vp_in_nI (by decide) (by decide)) dX7_star_137 (fun H1 locs hP1 z1 oq1 hS => ?_)
              rw [show Int32.toNatClampNeg 1 = 1 from clI 1 (by decide)] at hP1
              have hw := hw.setI hA (mk_ms hbns) (ml_ms hbns) hP1 oq1
              refine lv_aload_n hx hb dX7_star_138 rfl (lv_at hl 1 rfl) ?_
              refine k_get (ci := 7) (C := RX7) (T := TX7) (N := 20) (v := .ref (md 2)) hx hb hown hG rfl kin_X7 (show va_P D vwCl [(md 0, .inr (7, [.int ((thr N 0 0) 0), .int ((thr N 0 0) 1), .int ((thr N 0 0) 2), .ref (md 1), .ref (md 2), .ref (md 3), .ref (md 4), .ref (md 5), .int ((thr N 0 0) 8), .int ((thr N 0 0) 9), .int ((thr N 0 0) 10), .ref (md 6), .ref (md 7), .ref (md 8), .ref (md 9), .int ((thr N 0 0) 15), .int ((thr N 0 0) 16), .int ((thr N 0 0) 17), .long co, .long su]))] _ from by have h := hw.o; unfold mO at h; rw [mset_n (show (0 : Nat) ≠ 20 + ns by omega), mset_n (show (0 : Nat) ≠ 10 + ns by omega)] at h; exact h) 4 (by decide) wF_X7_14 rfl dX7_star_139 ?_
              refine lv_aload_n hx hb dX7_star_142 rfl (lv_at hl 1 rfl) ?_
              refine k_get (ci := 7) (C := RX7) (T := TX7) (N := 20) (v := .int ((thr N 0 0) 8)) hx hb hown hG rfl kin_X7 (show va_P D vwCl [(md 0, .inr (7, [.int ((thr N 0 0) 0), .int ((thr N 0 0) 1), .int ((thr N 0 0) 2), .ref (md 1), .ref (md 2), .ref (md 3), .ref (md 4), .ref (md 5), .int ((thr N 0 0) 8), .int ((thr N 0 0) 9), .int ((thr N 0 0) 10), .ref (md 6), .ref (md 7), .ref (md 8), .ref (md 9), .int ((thr N 0 0) 15), .int ((thr N 0 0) 16), .int ((thr N 0 0) 17), .long co, .long su]))] _ from by have h := hw.o; unfold mO at h; rw [mset_n (show (0 : Nat) ≠ 20 + ns by omega), mset_n (show (0 : Nat) ≠ 10 + ns by omega)] at h; exact h) 8 (by decide) wF_X7_79 rfl dX7_star_143 ?_
              refine k_ald2 (v := (md (20 + ns))) hx hb hG 5 rfl hw.a2 (by rw [(show thr N 0 0 8 = nI ns from hN.1)]; exact vp_in_nI (n := ns) hbns (by decide)) (by rw [(show thr N 0 0 8 = nI ns from hN.1)]; exact mo_ms hbns) dX7_star_146 ?_
              refine lv_iconst (v := 2) hx hb dX7_star_147 (by decide) ?_
              refine lv_iconst (v := (-1)) hx hb dX7_star_148 (by decide) ?_
              refine k_iast hx hb hG (show va_P D vwCl [(md (20 + ns), .inl (cy 0, 5, .inl (upd (thr N 0 (20 + ns)) 1 (-1))))] _ from by have h := hw.ms hbns; rw [mset_s] at h; exact h) hS (MA.i (mk_ms hbns)) (show vp_in (nI 2) 5 from vp_in_nI (by decide) (by decide)) dX7_star_149 (fun H1 locs hP1 z1 oq1 hS => ?_)
              rw [show Int32.toNatClampNeg 2 = 2 from clI 2 (by decide)] at hP1
              have hw := hw.setI hA (mk_ms hbns) (ml_ms hbns) hP1 oq1
              rw [mset_mset] at hw
              refine lv_aload_n hx hb dX7_star_150 rfl (lv_at hl 1 rfl) ?_
              refine lv_dup hx hb dX7_star_151 rfl ?_
              refine k_get (ci := 7) (C := RX7) (T := TX7) (N := 20) (v := .int ((thr N 0 0) 8)) hx hb hown hG rfl kin_X7 (show va_P D vwCl [(md 0, .inr (7, [.int ((thr N 0 0) 0), .int ((thr N 0 0) 1), .int ((thr N 0 0) 2), .ref (md 1), .ref (md 2), .ref (md 3), .ref (md 4), .ref (md 5), .int ((thr N 0 0) 8), .int ((thr N 0 0) 9), .int ((thr N 0 0) 10), .ref (md 6), .ref (md 7), .ref (md 8), .ref (md 9), .int ((thr N 0 0) 15), .int ((thr N 0 0) 16), .int ((thr N 0 0) 17), .long co, .long su]))] _ from by have h := hw.o; unfold mO at h; rw [mset_n (show (0 : Nat) ≠ 20 + ns by omega), mset_n (show (0 : Nat) ≠ 10 + ns by omega)] at h; exact h) 8 (by decide) wF_X7_79 rfl dX7_star_152 ?_
              refine lv_iconst (v := 1) hx hb dX7_star_155 (by decide) ?_
              refine lv_iadd hx hb dX7_star_156 ?_
              refine k_put (ci := 7) (C := RX7) (T := TX7) (N := 20) (v := .int (((thr N 0 0) 8) + 1)) hx hb hown hG rfl kin_X7 tyX7 tyX7_ok nmX7 (show va_P D vwCl [(md 0, .inr (7, [.int ((thr N 0 0) 0), .int ((thr N 0 0) 1), .int ((thr N 0 0) 2), .ref (md 1), .ref (md 2), .ref (md 3), .ref (md 4), .ref (md 5), .int ((thr N 0 0) 8), .int ((thr N 0 0) 9), .int ((thr N 0 0) 10), .ref (md 6), .ref (md 7), .ref (md 8), .ref (md 9), .int ((thr N 0 0) 15), .int ((thr N 0 0) 16), .int ((thr N 0 0) 17), .long co, .long su]))] _ from by have h := hw.o; unfold mO at h; rw [mset_n (show (0 : Nat) ≠ 20 + ns by omega), mset_n (show (0 : Nat) ≠ 10 + ns by omega)] at h; exact h) hS MA.o 8 (by decide) wF_X7_79 rfl rfl rfl (Nat.le_of_ble_eq_true rfl) dX7_star_157 (fun H1 locs hP1 z1 oq1 hS => ?_)
              have hw := hw.setO (r := (upd (thr N 0 0) 8 (((thr N 0 0) 8) + 1))) (c' := co) (s' := su) hA hP1 oq1
              refine lv_aload_n hx hb dX7_star_160 rfl (lv_at hl 1 rfl) ?_
              refine k_get (ci := 7) (C := RX7) (T := TX7) (N := 20) (v := .int ((upd (thr N 0 0) 8 (((thr N 0 0) 8) + 1)) 8)) hx hb hown hG rfl kin_X7 (show va_P D vwCl [(md 0, .inr (7, [.int ((upd (thr N 0 0) 8 (((thr N 0 0) 8) + 1)) 0), .int ((upd (thr N 0 0) 8 (((thr N 0 0) 8) + 1)) 1), .int ((upd (thr N 0 0) 8 (((thr N 0 0) 8) + 1)) 2), .ref (md 1), .ref (md 2), .ref (md 3), .ref (md 4), .ref (md 5), .int ((upd (thr N 0 0) 8 (((thr N 0 0) 8) + 1)) 8), .int ((upd (thr N 0 0) 8 (((thr N 0 0) 8) + 1)) 9), .int ((upd (thr N 0 0) 8 (((thr N 0 0) 8) + 1)) 10), .ref (md 6), .ref (md 7), .ref (md 8), .ref (md 9), .int ((upd (thr N 0 0) 8 (((thr N 0 0) 8) + 1)) 15), .int ((upd (thr N 0 0) 8 (((thr N 0 0) 8) + 1)) 16), .int ((upd (thr N 0 0) 8 (((thr N 0 0) 8) + 1)) 17), .long co, .long su]))] _ from by have h := hw.o; unfold mO at h; rw [mset_s] at h; exact h) 8 (by decide) wF_X7_79 rfl dX7_star_161 ?_
              refine lv_iconst (v := 1) hx hb dX7_star_164 (by decide) ?_
              refine lv_isub hx hb dX7_star_165 ?_
              exact ke_ui hx hb hr hlk hS dX7_star_166 (Or.inr (Or.inr ⟨by unfold kStar; rw [if_pos c_14, if_pos c_24, if_pos c_34, if_pos c_48, if_pos c_59, if_pos c_74], hbns, (by show thr N 0 0 8 + 1 - 1 = nI ns; rw [show thr N 0 0 8 = nI ns from hN.1, ← nI_succ]; exact nI_pred ns), hw⟩))
            · have c_74 : ¬ nI ns < 8 := mLt_f (m := 8) (by rw [show thr N 0 0 8 = nI ns from hN.1] at c_74; exact c_74)
              refine lv_aload_n hx hb dX7_star_77 rfl (lv_at hl 0 rfl) ?_
              refine lv_iconst (v := 2) hx hb dX7_star_78 (by decide) ?_
              refine kc_ui (kr_V (As := [.int 2]) (rest := []) hx hb hml hown hG (c_X7_refuse l D cy md (thr N 0) co su hA 2) cf_X7_refuse wM_X7_95 hw.o rfl hw ⟨rfl, rfl, by decide, by decide⟩ rfl rfl (Nat.le_of_ble_eq_true rfl) ⟨Nat.le_of_ble_eq_true rfl, Nat.le_of_ble_eq_true rfl⟩ dX7_star_79) hS (fun _ h => h) (fun r_79 H1 locs hp1 z1 oq1 hS => ?_)
              obtain ⟨e9, hw⟩ := hp1
              subst e9
              rw [thr_thr] at hw
              exact ke_ui hx hb hr hlk hS dX7_star_82 (Or.inr (Or.inl ⟨by unfold kStar; rw [if_pos c_14, if_pos c_24, if_pos c_34, if_pos c_48, if_pos c_59, if_neg c_74], hw⟩))
          · have c_59 := mIs_f c_59
            refine lv_aload_n hx hb dX7_star_62 rfl (lv_at hl 0 rfl) ?_
            refine lv_iconst (v := 1) hx hb dX7_star_63 (by decide) ?_
            refine kc_ui (kr_V (As := [.int 1]) (rest := []) hx hb hml hown hG (c_X7_refuse l D cy md (thr N 0) co su hA 1) cf_X7_refuse wM_X7_95 hw.o rfl hw ⟨rfl, rfl, by decide, by decide⟩ rfl rfl (Nat.le_of_ble_eq_true rfl) ⟨Nat.le_of_ble_eq_true rfl, Nat.le_of_ble_eq_true rfl⟩ dX7_star_64) hS (fun _ h => h) (fun r_64 H1 locs hp1 z1 oq1 hS => ?_)
            obtain ⟨e9, hw⟩ := hp1
            subst e9
            rw [thr_thr] at hw
            exact ke_ui hx hb hr hlk hS dX7_star_67 (Or.inl ⟨by unfold kStar; rw [if_pos c_14, if_pos c_24, if_pos c_34, if_pos c_48, if_neg c_59], hw⟩)
set_option maxHeartbeats 4000000 in
set_option maxRecDepth 100000 in
theorem c_X7_receiver (l : Launch) (D : va_G) (cy : Nat → ClassId) (md : Nat → Nat) (N : Nat → Nat → Int32) (co su : Int64) (hA : MI md) (ns nt nr : Nat) (hL : LB ns nt nr) (hN : MN N ns nt nr) (x y b : Int32) : Met l yX7_receiver [.code yX7_receiver cX7_receiver 5 (some .int)] ({ frames := 2, cells := 0, slots := 0, locals := 43 } : Room) (PC D cy [.ref (md 0), .int x, .int y, .int b] (fun H => MW D cy md N co su H)) (UQi (MA md) (mOut D cy md N co su (kRec nr x y b) (fun r H => nr < 3 ∧ r = nI nr ∧ MW D cy md (mset (mset (thr N 0) (40 + nr) (mRecV (thr N 0 (40 + nr)) x y b)) 0 (upd (thr N 0 0) 10 (thr N 0 0 10 + 1))) co su H))) 0 0 (MA md) := by
  refine k_body (by decide +kernel) (Nat.le_of_ble_eq_true rfl) ?_
  intro p e s m below meth c ls hx hb hml hown hr hlk hmn hl hG hI
  have hml9 : c.maxLocals = 5 := hml.trans hl.1
  have hl : lv_has ls 5 [(0, .ref (md 0)), (1, .int x), (2, .int y), (3, .int b)] := hl
  have hS : va_S (MA md) s.heap s.heap [] := va_S.rf
  have hw := hI
  refine lv_aload_n hx hb dX7_receiver_0 rfl (lv_at hl 0 rfl) ?_
  refine lv_iconst (v := 0) hx hb dX7_receiver_1 (by decide) ?_
  refine k_put (ci := 7) (C := RX7) (T := TX7) (N := 20) (v := .int 0) hx hb hown hG rfl kin_X7 tyX7 tyX7_ok nmX7 hw.o hS MA.o 0 (by decide) wF_X7_41 rfl rfl rfl (Nat.le_of_ble_eq_true rfl) dX7_receiver_2 (fun H1 locs hP1 z1 oq1 hS => ?_)
  have hw := hw.setO (r := (upd (N 0) 0 0)) (c' := co) (s' := su) hA hP1 oq1
  have hw : MW D cy md (thr N 0) co su H1 := hw
  refine lv_iload_n hx hb dX7_receiver_5 rfl (lv_at hl 1 rfl) ?_
  refine lv_iload_n hx hb dX7_receiver_6 rfl (lv_at hl 2 rfl) ?_
  refine kc_i (kr_S (As := [.int x, .int y]) (rest := []) hx hb hml hown hG (c_X7_isPlace l D cy x y) cf_X7_isPlace wM_X7_111 trivial ⟨rfl, rfl, by decide, by decide⟩ rfl rfl (Nat.le_of_ble_eq_true rfl) ⟨Nat.le_of_ble_eq_true rfl, Nat.le_of_ble_eq_true rfl⟩ dX7_receiver_7) ?_
  refine lv_if_eq (tgt := 24) hx hb dX7_receiver_10 (by decide) (fun c_10 => ?_) (fun c_10 => ?_)
  · have c_10 := mPl_f c_10
    refine lv_aload_n hx hb dX7_receiver_24 rfl (lv_at hl 0 rfl) ?_
    refine lv_iconst (v := 1) hx hb dX7_receiver_25 (by decide) ?_
    refine kc_ui (kr_V (As := [.int 1]) (rest := []) hx hb hml hown hG (c_X7_refuse l D cy md (thr N 0) co su hA 1) cf_X7_refuse wM_X7_95 hw.o rfl hw ⟨rfl, rfl, by decide, by decide⟩ rfl rfl (Nat.le_of_ble_eq_true rfl) ⟨Nat.le_of_ble_eq_true rfl, Nat.le_of_ble_eq_true rfl⟩ dX7_receiver_26) hS (fun _ h => h) (fun r_26 H1 locs hp1 z1 oq1 hS => ?_)
    obtain ⟨e9, hw⟩ := hp1
    subst e9
    rw [thr_thr] at hw
    exact ke_ui hx hb hr hlk hS dX7_receiver_29 (Or.inl ⟨by unfold kRec; rw [if_neg c_10], hw⟩)
  · have c_10 := mPl_t c_10
    refine lv_iload_n hx hb dX7_receiver_13 rfl (lv_at hl 3 rfl) ?_
    refine lv_bipush (v := (-99)) hx hb dX7_receiver_14 (by decide) ?_
    refine lv_bipush (v := 99) hx hb dX7_receiver_16 (by decide) ?_
    refine kc_i (kr_S (As := [.int b, .int (-99), .int 99]) (rest := []) hx hb hml hown hG (c_X7_is l D cy b (-99) 99) cf_X7_is wM_X7_86 trivial ⟨rfl, rfl, by decide, by decide⟩ rfl rfl (Nat.le_of_ble_eq_true rfl) ⟨Nat.le_of_ble_eq_true rfl, Nat.le_of_ble_eq_true rfl⟩ dX7_receiver_18) ?_
    refine lv_if_ne (tgt := 30) hx hb dX7_receiver_21 (by decide) (fun c_21 => ?_) (fun c_21 => ?_)
    · have c_21 := mIs_t c_21
      refine lv_aload_n hx hb dX7_receiver_30 rfl (lv_at hl 0 rfl) ?_
      refine k_get (ci := 7) (C := RX7) (T := TX7) (N := 20) (v := .int ((thr N 0 0) 10)) hx hb hown hG rfl kin_X7 hw.o 10 (by decide) wF_X7_92 rfl dX7_receiver_31 ?_
      refine lv_iconst (v := 3) hx hb dX7_receiver_34 (by decide) ?_
      refine lv_icmp_ne (tgt := 44) hx hb dX7_receiver_35 (by decide) (fun c_35 => ?_) (fun c_35 => ?_)
      · have c_35 : nI nr < 3 := mLt_t (m := 3) (by decide) hL.2.2 (by rw [show thr N 0 0 10 = nI nr from hN.2.2] at c_35; exact c_35)
        have hbnr : nr < 3 := (nI_ltI (by have := hL.2.2; omega) (by decide)).mp (show nI nr < nI 3 from c_35)
        refine lv_aload_n hx hb dX7_receiver_44 rfl (lv_at hl 0 rfl) ?_
        refine k_get (ci := 7) (C := RX7) (T := TX7) (N := 20) (v := .ref (md 4)) hx hb hown hG rfl kin_X7 hw.o 6 (by decide) wF_X7_20 rfl dX7_receiver_45 ?_
        refine lv_aload_n hx hb dX7_receiver_48 rfl (lv_at hl 0 rfl) ?_
        refine k_get (ci := 7) (C := RX7) (T := TX7) (N := 20) (v := .int ((thr N 0 0) 10)) hx hb hown hG rfl kin_X7 hw.o 10 (by decide) wF_X7_92 rfl dX7_receiver_49 ?_
        refine k_ald2 (v := (md (40 + nr))) hx hb hG 5 rfl hw.a4 (by rw [(show thr N 0 0 10 = nI nr from hN.2.2)]; exact vp_in_nI (n := nr) hbnr (by decide)) (by rw [(show thr N 0 0 10 = nI nr from hN.2.2)]; exact mo_rc hbnr) dX7_receiver_52 ?_
        refine lv_astore (lv' := [(4, .ref (md (40 + nr))), (0, .ref (md 0)), (1, .int x), (2, .int y), (3, .int b)]) hx hb dX7_receiver_53 hl (by decide) rfl (fun ls hl => ?_)
        have hml : c.maxLocals = ls.size := hml9.trans hl.1.symm
        refine lv_aload hx hb dX7_receiver_55 (lv_at hl 0 rfl) ?_
        refine lv_iconst (v := 0) hx hb dX7_receiver_57 (by decide) ?_
        refine lv_iload_n hx hb dX7_receiver_58 rfl (lv_at hl 2 rfl) ?_
        refine k_iast hx hb hG (hw.rc hbnr) hS (MA.i (mk_rc hbnr)) (show vp_in (nI 0) 22 from vp_in_nI (by decide) (by decide)) dX7_receiver_59 (fun H1 locs hP1 z1 oq1 hS => ?_)
        rw [show Int32.toNatClampNeg 0 = 0 from clI 0 (by decide)] at hP1
        have hw := hw.setI hA (mk_rc hbnr) (ml_rc hbnr) hP1 oq1
        refine lv_aload hx hb dX7_receiver_60 (lv_at hl 0 rfl) ?_
        refine lv_iconst (v := 1) hx hb dX7_receiver_62 (by decide) ?_
        refine lv_iload_n hx hb dX7_receiver_63 rfl (lv_at hl 3 rfl) ?_
        refine k_iast hx hb hG (show va_P D vwCl [(md (40 + nr), .inl (cy 0, 22, .inl (upd (thr N 0 (40 + nr)) 0 x)))] _ from by have h := hw.rc hbnr; rw [mset_s] at h; exact h) hS (MA.i (mk_rc hbnr)) (show vp_in (nI 1) 22 from vp_in_nI (by decide) (by decide)) dX7_receiver_64 (fun H1 locs hP1 z1 oq1 hS => ?_)
        rw [show Int32.toNatClampNeg 1 = 1 from clI 1 (by decide)] at hP1
        have hw := hw.setI hA (mk_rc hbnr) (ml_rc hbnr) hP1 oq1
        rw [mset_mset] at hw
        refine lv_aload hx hb dX7_receiver_65 (lv_at hl 0 rfl) ?_
        refine lv_iconst (v := 2) hx hb dX7_receiver_67 (by decide) ?_
        refine lv_iload_n hx hb dX7_receiver_68 rfl (lv_at hl 4 rfl) ?_
        refine k_iast hx hb hG (show va_P D vwCl [(md (40 + nr), .inl (cy 0, 22, .inl (upd (upd (thr N 0 (40 + nr)) 0 x) 1 y)))] _ from by have h := hw.rc hbnr; rw [mset_s] at h; exact h) hS (MA.i (mk_rc hbnr)) (show vp_in (nI 2) 22 from vp_in_nI (by decide) (by decide)) dX7_receiver_69 (fun H1 locs hP1 z1 oq1 hS => ?_)
        rw [show Int32.toNatClampNeg 2 = 2 from clI 2 (by decide)] at hP1
        have hw := hw.setI hA (mk_rc hbnr) (ml_rc hbnr) hP1 oq1
        rw [mset_mset] at hw
        refine lv_aload hx hb dX7_receiver_70 (lv_at hl 0 rfl) ?_
        refine lv_iconst (v := 3) hx hb dX7_receiver_72 (by decide) ?_
        refine lv_iconst (v := 5) hx hb dX7_receiver_73 (by decide) ?_
        refine k_iast hx hb hG (show va_P D vwCl [(md (40 + nr), .inl (cy 0, 22, .inl (upd (upd (upd (thr N 0 (40 + nr)) 0 x) 1 y) 2 b)))] _ from by have h := hw.rc hbnr; rw [mset_s] at h; exact h) hS (MA.i (mk_rc hbnr)) (show vp_in (nI 3) 22 from vp_in_nI (by decide) (by decide)) dX7_receiver_74 (fun H1 locs hP1 z1 oq1 hS => ?_)
        rw [show Int32.toNatClampNeg 3 = 3 from clI 3 (by decide)] at hP1
        have hw := hw.setI hA (mk_rc hbnr) (ml_rc hbnr) hP1 oq1
        rw [mset_mset] at hw
        refine lv_aload hx hb dX7_receiver_75 (lv_at hl 0 rfl) ?_
        refine lv_iconst (v := 4) hx hb dX7_receiver_77 (by decide) ?_
        refine lv_iconst (v := 5) hx hb dX7_receiver_78 (by decide) ?_
        refine k_iast hx hb hG (show va_P D vwCl [(md (40 + nr), .inl (cy 0, 22, .inl (upd (upd (upd (upd (thr N 0 (40 + nr)) 0 x) 1 y) 2 b) 3 5)))] _ from by have h := hw.rc hbnr; rw [mset_s] at h; exact h) hS (MA.i (mk_rc hbnr)) (show vp_in (nI 4) 22 from vp_in_nI (by decide) (by decide)) dX7_receiver_79 (fun H1 locs hP1 z1 oq1 hS => ?_)
        rw [show Int32.toNatClampNeg 4 = 4 from clI 4 (by decide)] at hP1
        have hw := hw.setI hA (mk_rc hbnr) (ml_rc hbnr) hP1 oq1
        rw [mset_mset] at hw
        refine lv_aload hx hb dX7_receiver_80 (lv_at hl 0 rfl) ?_
        refine lv_bipush (v := 6) hx hb dX7_receiver_82 (by decide) ?_
        refine lv_iconst (v := 1) hx hb dX7_receiver_84 (by decide) ?_
        refine k_iast hx hb hG (show va_P D vwCl [(md (40 + nr), .inl (cy 0, 22, .inl (upd (upd (upd (upd (upd (thr N 0 (40 + nr)) 0 x) 1 y) 2 b) 3 5) 4 5)))] _ from by have h := hw.rc hbnr; rw [mset_s] at h; exact h) hS (MA.i (mk_rc hbnr)) (show vp_in (nI 6) 22 from vp_in_nI (by decide) (by decide)) dX7_receiver_85 (fun H1 locs hP1 z1 oq1 hS => ?_)
        rw [show Int32.toNatClampNeg 6 = 6 from clI 6 (by decide)] at hP1
        have hw := hw.setI hA (mk_rc hbnr) (ml_rc hbnr) hP1 oq1
        rw [mset_mset] at hw
        refine lv_aload hx hb dX7_receiver_86 (lv_at hl 0 rfl) ?_
        refine lv_bipush (v := 7) hx hb dX7_receiver_88 (by decide) ?_
        refine lv_bipush (v := 6) hx hb dX7_receiver_90 (by decide) ?_
        refine k_iast hx hb hG (show va_P D vwCl [(md (40 + nr), .inl (cy 0, 22, .inl (upd (upd (upd (upd (upd (upd (thr N 0 (40 + nr)) 0 x) 1 y) 2 b) 3 5) 4 5) 6 1)))] _ from by have h := hw.rc hbnr; rw [mset_s] at h; exact h) hS (MA.i (mk_rc hbnr)) (show vp_in (nI 7) 22 from vp_in_nI (by decide) (by decide)) dX7_receiver_92 (fun H1 locs hP1 z1 oq1 hS => ?_)
        rw [show Int32.toNatClampNeg 7 = 7 from clI 7 (by decide)] at hP1
        have hw := hw.setI hA (mk_rc hbnr) (ml_rc hbnr) hP1 oq1
        rw [mset_mset] at hw
        refine lv_aload hx hb dX7_receiver_93 (lv_at hl 0 rfl) ?_
        refine lv_bipush (v := 9) hx hb dX7_receiver_95 (by decide) ?_
        refine lv_iconst (v := (-1)) hx hb dX7_receiver_97 (by decide) ?_
        refine k_iast hx hb hG (show va_P D vwCl [(md (40 + nr), .inl (cy 0, 22, .inl (upd (upd (upd (upd (upd (upd (upd (thr N 0 (40 + nr)) 0 x) 1 y) 2 b) 3 5) 4 5) 6 1) 7 6)))] _ from by have h := hw.rc hbnr; rw [mset_s] at h; exact h) hS (MA.i (mk_rc hbnr)) (show vp_in (nI 9) 22 from vp_in_nI (by decide) (by decide)) dX7_receiver_98 (fun H1 locs hP1 z1 oq1 hS => ?_)
        rw [show Int32.toNatClampNeg 9 = 9 from clI 9 (by decide)] at hP1
        have hw := hw.setI hA (mk_rc hbnr) (ml_rc hbnr) hP1 oq1
        rw [mset_mset] at hw
        refine lv_aload hx hb dX7_receiver_99 (lv_at hl 0 rfl) ?_
        refine lv_bipush (v := 10) hx hb dX7_receiver_101 (by decide) ?_
        refine lv_iconst (v := (-1)) hx hb dX7_receiver_103 (by decide) ?_
        refine k_iast hx hb hG (show va_P D vwCl [(md (40 + nr), .inl (cy 0, 22, .inl (upd (upd (upd (upd (upd (upd (upd (upd (thr N 0 (40 + nr)) 0 x) 1 y) 2 b) 3 5) 4 5) 6 1) 7 6) 9 (-1))))] _ from by have h := hw.rc hbnr; rw [mset_s] at h; exact h) hS (MA.i (mk_rc hbnr)) (show vp_in (nI 10) 22 from vp_in_nI (by decide) (by decide)) dX7_receiver_104 (fun H1 locs hP1 z1 oq1 hS => ?_)
        rw [show Int32.toNatClampNeg 10 = 10 from clI 10 (by decide)] at hP1
        have hw := hw.setI hA (mk_rc hbnr) (ml_rc hbnr) hP1 oq1
        rw [mset_mset] at hw
        refine lv_aload hx hb dX7_receiver_105 (lv_at hl 0 rfl) ?_
        refine lv_bipush (v := 16) hx hb dX7_receiver_107 (by decide) ?_
        refine lv_bipush (v := 99) hx hb dX7_receiver_109 (by decide) ?_
        refine k_iast hx hb hG (show va_P D vwCl [(md (40 + nr), .inl (cy 0, 22, .inl (upd (upd (upd (upd (upd (upd (upd (upd (upd (thr N 0 (40 + nr)) 0 x) 1 y) 2 b) 3 5) 4 5) 6 1) 7 6) 9 (-1)) 10 (-1))))] _ from by have h := hw.rc hbnr; rw [mset_s] at h; exact h) hS (MA.i (mk_rc hbnr)) (show vp_in (nI 16) 22 from vp_in_nI (by decide) (by decide)) dX7_receiver_111 (fun H1 locs hP1 z1 oq1 hS => ?_)
        rw [show Int32.toNatClampNeg 16 = 16 from clI 16 (by decide)] at hP1
        have hw := hw.setI hA (mk_rc hbnr) (ml_rc hbnr) hP1 oq1
        rw [mset_mset] at hw
        refine lv_aload hx hb dX7_receiver_112 (lv_at hl 0 rfl) ?_
        refine lv_bipush (v := 19) hx hb dX7_receiver_114 (by decide) ?_
        refine lv_iconst (v := (-1)) hx hb dX7_receiver_116 (by decide) ?_
        refine k_iast hx hb hG (show va_P D vwCl [(md (40 + nr), .inl (cy 0, 22, .inl (upd (upd (upd (upd (upd (upd (upd (upd (upd (upd (thr N 0 (40 + nr)) 0 x) 1 y) 2 b) 3 5) 4 5) 6 1) 7 6) 9 (-1)) 10 (-1)) 16 99)))] _ from by have h := hw.rc hbnr; rw [mset_s] at h; exact h) hS (MA.i (mk_rc hbnr)) (show vp_in (nI 19) 22 from vp_in_nI (by decide) (by decide)) dX7_receiver_117 (fun H1 locs hP1 z1 oq1 hS => ?_)
        rw [show Int32.toNatClampNeg 19 = 19 from clI 19 (by decide)] at hP1
        have hw := hw.setI hA (mk_rc hbnr) (ml_rc hbnr) hP1 oq1
        rw [mset_mset] at hw
        refine lv_aload_n hx hb dX7_receiver_118 rfl (lv_at hl 1 rfl) ?_
        refine lv_dup hx hb dX7_receiver_119 rfl ?_
        refine k_get (ci := 7) (C := RX7) (T := TX7) (N := 20) (v := .int ((thr N 0 0) 10)) hx hb hown hG rfl kin_X7 (show va_P D vwCl [(md 0, .inr (7, [.int ((thr N 0 0) 0), .int ((thr N 0 0) 1), .int ((thr N 0 0) 2), .ref (md 1), .ref (md 2), .ref (md 3), .ref (md 4), .ref (md 5), .int ((thr N 0 0) 8), .int ((thr N 0 0) 9), .int ((thr N 0 0) 10), .ref (md 6), .ref (md 7), .ref (md 8), .ref (md 9), .int ((thr N 0 0) 15), .int ((thr N 0 0) 16), .int ((thr N 0 0) 17), .long co, .long su]))] _ from by have h := hw.o; unfold mO at h; rw [mset_n (show (0 : Nat) ≠ 40 + nr by omega)] at h; exact h) 10 (by decide) wF_X7_92 rfl dX7_receiver_120 ?_
        refine lv_iconst (v := 1) hx hb dX7_receiver_123 (by decide) ?_
        refine lv_iadd hx hb dX7_receiver_124 ?_
        refine k_put (ci := 7) (C := RX7) (T := TX7) (N := 20) (v := .int (((thr N 0 0) 10) + 1)) hx hb hown hG rfl kin_X7 tyX7 tyX7_ok nmX7 (show va_P D vwCl [(md 0, .inr (7, [.int ((thr N 0 0) 0), .int ((thr N 0 0) 1), .int ((thr N 0 0) 2), .ref (md 1), .ref (md 2), .ref (md 3), .ref (md 4), .ref (md 5), .int ((thr N 0 0) 8), .int ((thr N 0 0) 9), .int ((thr N 0 0) 10), .ref (md 6), .ref (md 7), .ref (md 8), .ref (md 9), .int ((thr N 0 0) 15), .int ((thr N 0 0) 16), .int ((thr N 0 0) 17), .long co, .long su]))] _ from by have h := hw.o; unfold mO at h; rw [mset_n (show (0 : Nat) ≠ 40 + nr by omega)] at h; exact h) hS MA.o 10 (by decide) wF_X7_92 rfl rfl rfl (Nat.le_of_ble_eq_true rfl) dX7_receiver_125 (fun H1 locs hP1 z1 oq1 hS => ?_)
        have hw := hw.setO (r := (upd (thr N 0 0) 10 (((thr N 0 0) 10) + 1))) (c' := co) (s' := su) hA hP1 oq1
        refine lv_aload_n hx hb dX7_receiver_128 rfl (lv_at hl 1 rfl) ?_
        refine k_get (ci := 7) (C := RX7) (T := TX7) (N := 20) (v := .int ((upd (thr N 0 0) 10 (((thr N 0 0) 10) + 1)) 10)) hx hb hown hG rfl kin_X7 (show va_P D vwCl [(md 0, .inr (7, [.int ((upd (thr N 0 0) 10 (((thr N 0 0) 10) + 1)) 0), .int ((upd (thr N 0 0) 10 (((thr N 0 0) 10) + 1)) 1), .int ((upd (thr N 0 0) 10 (((thr N 0 0) 10) + 1)) 2), .ref (md 1), .ref (md 2), .ref (md 3), .ref (md 4), .ref (md 5), .int ((upd (thr N 0 0) 10 (((thr N 0 0) 10) + 1)) 8), .int ((upd (thr N 0 0) 10 (((thr N 0 0) 10) + 1)) 9), .int ((upd (thr N 0 0) 10 (((thr N 0 0) 10) + 1)) 10), .ref (md 6), .ref (md 7), .ref (md 8), .ref (md 9), .int ((upd (thr N 0 0) 10 (((thr N 0 0) 10) + 1)) 15), .int ((upd (thr N 0 0) 10 (((thr N 0 0) 10) + 1)) 16), .int ((upd (thr N 0 0) 10 (((thr N 0 0) 10) + 1)) 17), .long co, .long su]))] _ from by have h := hw.o; unfold mO at h; rw [mset_s] at h; exact h) 10 (by decide) wF_X7_92 rfl dX7_receiver_129 ?_
        refine lv_iconst (v := 1) hx hb dX7_receiver_132 (by decide) ?_
        refine lv_isub hx hb dX7_receiver_133 ?_
        exact ke_ui hx hb hr hlk hS dX7_receiver_134 (Or.inr (Or.inr ⟨by unfold kRec; rw [if_pos c_10, if_pos c_21, if_pos c_35], hbnr, (by show thr N 0 0 10 + 1 - 1 = nI nr; rw [show thr N 0 0 10 = nI nr from hN.2.2, ← nI_succ]; exact nI_pred nr), hw⟩))
      · have c_35 : ¬ nI nr < 3 := mLt_f (m := 3) (by rw [show thr N 0 0 10 = nI nr from hN.2.2] at c_35; exact c_35)
        refine lv_aload_n hx hb dX7_receiver_38 rfl (lv_at hl 0 rfl) ?_
        refine lv_iconst (v := 2) hx hb dX7_receiver_39 (by decide) ?_
        refine kc_ui (kr_V (As := [.int 2]) (rest := []) hx hb hml hown hG (c_X7_refuse l D cy md (thr N 0) co su hA 2) cf_X7_refuse wM_X7_95 hw.o rfl hw ⟨rfl, rfl, by decide, by decide⟩ rfl rfl (Nat.le_of_ble_eq_true rfl) ⟨Nat.le_of_ble_eq_true rfl, Nat.le_of_ble_eq_true rfl⟩ dX7_receiver_40) hS (fun _ h => h) (fun r_40 H1 locs hp1 z1 oq1 hS => ?_)
        obtain ⟨e9, hw⟩ := hp1
        subst e9
        rw [thr_thr] at hw
        exact ke_ui hx hb hr hlk hS dX7_receiver_43 (Or.inr (Or.inl ⟨by unfold kRec; rw [if_pos c_10, if_pos c_21, if_neg c_35], hw⟩))
    · have c_21 := mIs_f c_21
      refine lv_aload_n hx hb dX7_receiver_24 rfl (lv_at hl 0 rfl) ?_
      refine lv_iconst (v := 1) hx hb dX7_receiver_25 (by decide) ?_
      refine kc_ui (kr_V (As := [.int 1]) (rest := []) hx hb hml hown hG (c_X7_refuse l D cy md (thr N 0) co su hA 1) cf_X7_refuse wM_X7_95 hw.o rfl hw ⟨rfl, rfl, by decide, by decide⟩ rfl rfl (Nat.le_of_ble_eq_true rfl) ⟨Nat.le_of_ble_eq_true rfl, Nat.le_of_ble_eq_true rfl⟩ dX7_receiver_26) hS (fun _ h => h) (fun r_26 H1 locs hp1 z1 oq1 hS => ?_)
      obtain ⟨e9, hw⟩ := hp1
      subst e9
      rw [thr_thr] at hw
      exact ke_ui hx hb hr hlk hS dX7_receiver_29 (Or.inl ⟨by unfold kRec; rw [if_pos c_10, if_neg c_21], hw⟩)
set_option maxHeartbeats 4000000 in
set_option maxRecDepth 100000 in
theorem c_X7_go (l : Launch) (D : va_G) (cy : Nat → ClassId) (md : Nat → Nat) (N : Nat → Nat → Int32) (co su : Int64) (hA : MI md) (ns nt nr : Nat) (hL : LB ns nt nr) (hN : MN N ns nt nr) (x u v : Int32) : Met l yX7_go [.code yX7_go cX7_go 6 (some .int)] ({ frames := 2, cells := 0, slots := 0, locals := 46 } : Room) (PC D cy [.ref (md 0), .int x, .int u, .int v] (fun H => MW D cy md N co su H)) (UQi (MA md) (mOut D cy md N co su (kGo nr x u v) (fun r H => ∃ i, i < nr ∧ x = nI i ∧ r = pRange (thr N 0 (40 + i) 0) (thr N 0 (40 + i) 1) u v ∧ MW D cy md (mset (thr N 0) (40 + i) (upd (upd (thr N 0 (40 + i)) 0 u) 1 v)) co su H))) 0 0 (MA md) := by
  refine k_body (by decide +kernel) (Nat.le_of_ble_eq_true rfl) ?_
  intro p e s m below meth c ls hx hb hml hown hr hlk hmn hl hG hI
  have hml9 : c.maxLocals = 6 := hml.trans hl.1
  have hl : lv_has ls 6 [(0, .ref (md 0)), (1, .int x), (2, .int u), (3, .int v)] := hl
  have hS : va_S (MA md) s.heap s.heap [] := va_S.rf
  have hw := hI
  refine lv_aload_n hx hb dX7_go_0 rfl (lv_at hl 0 rfl) ?_
  refine lv_iconst (v := 0) hx hb dX7_go_1 (by decide) ?_
  refine k_put (ci := 7) (C := RX7) (T := TX7) (N := 20) (v := .int 0) hx hb hown hG rfl kin_X7 tyX7 tyX7_ok nmX7 hw.o hS MA.o 0 (by decide) wF_X7_41 rfl rfl rfl (Nat.le_of_ble_eq_true rfl) dX7_go_2 (fun H1 locs hP1 z1 oq1 hS => ?_)
  have hw := hw.setO (r := (upd (N 0) 0 0)) (c' := co) (s' := su) hA hP1 oq1
  have hw : MW D cy md (thr N 0) co su H1 := hw
  refine lv_aload_n hx hb dX7_go_5 rfl (lv_at hl 0 rfl) ?_
  refine lv_iload_n hx hb dX7_go_6 rfl (lv_at hl 1 rfl) ?_
  refine kc_i (kr_V (As := [.int x]) (rest := []) hx hb hml hown hG (c_X7_isReceiver l D cy md (thr N 0) co su x) cf_X7_isReceiver wM_X7_115 hw.o rfl hw ⟨rfl, rfl, by decide, by decide⟩ rfl rfl (Nat.le_of_ble_eq_true rfl) ⟨Nat.le_of_ble_eq_true rfl, Nat.le_of_ble_eq_true rfl⟩ dX7_go_7) ?_
  refine lv_if_ne (tgt := 19) hx hb dX7_go_10 (by decide) (fun c_10 => ?_) (fun c_10 => ?_)
  · have c_10 : bI (pOut x 0 (nI nr - 1)) = 0 := by have h := mIs_t c_10; rw [show thr N 0 0 10 = nI nr from hN.2.2] at h; exact h
    obtain ⟨i, hi, ei⟩ := pOut_f (Nat.le_trans hL.2.2 (by decide)) c_10
    subst ei
    have hbi := Nat.lt_of_lt_of_le hi hL.2.2
    refine lv_iload_n hx hb dX7_go_19 rfl (lv_at hl 2 rfl) ?_
    refine lv_iload_n hx hb dX7_go_20 rfl (lv_at hl 3 rfl) ?_
    refine kc_i (kr_S (As := [.int u, .int v]) (rest := []) hx hb hml hown hG (c_X7_isPlace l D cy u v) cf_X7_isPlace wM_X7_111 trivial ⟨rfl, rfl, by decide, by decide⟩ rfl rfl (Nat.le_of_ble_eq_true rfl) ⟨Nat.le_of_ble_eq_true rfl, Nat.le_of_ble_eq_true rfl⟩ dX7_go_21) ?_
    refine lv_if_ne (tgt := 33) hx hb dX7_go_24 (by decide) (fun c_24 => ?_) (fun c_24 => ?_)
    · have c_24 := mPl_t c_24
      refine lv_aload_n hx hb dX7_go_33 rfl (lv_at hl 0 rfl) ?_
      refine k_get (ci := 7) (C := RX7) (T := TX7) (N := 20) (v := .ref (md 4)) hx hb hown hG rfl kin_X7 hw.o 6 (by decide) wF_X7_20 rfl dX7_go_34 ?_
      refine lv_iload_n hx hb dX7_go_37 rfl (lv_at hl 1 rfl) ?_
      refine k_ald2 (v := (md (40 + i))) hx hb hG 5 rfl hw.a4 (vp_in_nI (n := i) hbi (by decide)) (mo_rc hbi) dX7_go_38 ?_
      refine lv_astore (lv' := [(4, .ref (md (40 + i))), (0, .ref (md 0)), (1, .int (nI i)), (2, .int u), (3, .int v)]) hx hb dX7_go_39 hl (by decide) rfl (fun ls hl => ?_)
      have hml : c.maxLocals = ls.size := hml9.trans hl.1.symm
      refine lv_aload hx hb dX7_go_41 (lv_at hl 0 rfl) ?_
      refine lv_iconst (v := 0) hx hb dX7_go_43 (by decide) ?_
      refine k_iald (v := ((thr N 0 (40 + i)) 0)) hx hb hG (hw.rc hbi) (show vp_in (nI 0) 22 from vp_in_nI (by decide) (by decide)) (congrArg (thr N 0 (40 + i)) (clI 0 (by decide))) dX7_go_44 ?_
      refine lv_aload hx hb dX7_go_45 (lv_at hl 0 rfl) ?_
      refine lv_iconst (v := 1) hx hb dX7_go_47 (by decide) ?_
      refine k_iald (v := ((thr N 0 (40 + i)) 1)) hx hb hG (hw.rc hbi) (show vp_in (nI 1) 22 from vp_in_nI (by decide) (by decide)) (congrArg (thr N 0 (40 + i)) (clI 1 (by decide))) dX7_go_48 ?_
      refine lv_iload_n hx hb dX7_go_49 rfl (lv_at hl 3 rfl) ?_
      refine lv_iload_n hx hb dX7_go_50 rfl (lv_at hl 4 rfl) ?_
      refine kc_i (kr_S (As := [.int ((thr N 0 (40 + i)) 0), .int ((thr N 0 (40 + i)) 1), .int u, .int v]) (rest := []) hx hb hml hown hG (c_X7_range l D cy ((thr N 0 (40 + i)) 0) ((thr N 0 (40 + i)) 1) u v) cf_X7_range wM_X7_118 trivial ⟨rfl, rfl, by decide, by decide⟩ rfl rfl (Nat.le_of_ble_eq_true rfl) ⟨Nat.le_of_ble_eq_true rfl, Nat.le_of_ble_eq_true rfl⟩ dX7_go_51) ?_
      refine lv_istore (lv' := [(5, .int (pRange ((thr N 0 (40 + i)) 0) ((thr N 0 (40 + i)) 1) u v)), (4, .ref (md (40 + i))), (0, .ref (md 0)), (1, .int (nI i)), (2, .int u), (3, .int v)]) hx hb dX7_go_54 hl (by decide) rfl (fun ls hl => ?_)
      have hml : c.maxLocals = ls.size := hml9.trans hl.1.symm
      refine lv_aload hx hb dX7_go_56 (lv_at hl 1 rfl) ?_
      refine lv_iconst (v := 0) hx hb dX7_go_58 (by decide) ?_
      refine lv_iload_n hx hb dX7_go_59 rfl (lv_at hl 4 rfl) ?_
      refine k_iast hx hb hG (hw.rc hbi) hS (MA.i (mk_rc hbi)) (show vp_in (nI 0) 22 from vp_in_nI (by decide) (by decide)) dX7_go_60 (fun H1 locs hP1 z1 oq1 hS => ?_)
      rw [show Int32.toNatClampNeg 0 = 0 from clI 0 (by decide)] at hP1
      have hw := hw.setI hA (mk_rc hbi) (ml_rc hbi) hP1 oq1
      refine lv_aload hx hb dX7_go_61 (lv_at hl 1 rfl) ?_
      refine lv_iconst (v := 1) hx hb dX7_go_63 (by decide) ?_
      refine lv_iload_n hx hb dX7_go_64 rfl (lv_at hl 5 rfl) ?_
      refine k_iast hx hb hG (show va_P D vwCl [(md (40 + i), .inl (cy 0, 22, .inl (upd (thr N 0 (40 + i)) 0 u)))] _ from by have h := hw.rc hbi; rw [mset_s] at h; exact h) hS (MA.i (mk_rc hbi)) (show vp_in (nI 1) 22 from vp_in_nI (by decide) (by decide)) dX7_go_65 (fun H1 locs hP1 z1 oq1 hS => ?_)
      rw [show Int32.toNatClampNeg 1 = 1 from clI 1 (by decide)] at hP1
      have hw := hw.setI hA (mk_rc hbi) (ml_rc hbi) hP1 oq1
      rw [mset_mset] at hw
      refine lv_iload hx hb dX7_go_66 (lv_at hl 0 rfl) ?_
      exact ke_ui hx hb hr hlk hS dX7_go_68 (Or.inr (Or.inr ⟨by unfold kGo; rw [if_pos c_10, if_pos c_24], i, hi, rfl, rfl, hw⟩))
    · have c_24 := mPl_f c_24
      refine lv_aload_n hx hb dX7_go_27 rfl (lv_at hl 0 rfl) ?_
      refine lv_iconst (v := 2) hx hb dX7_go_28 (by decide) ?_
      refine kc_ui (kr_V (As := [.int 2]) (rest := []) hx hb hml hown hG (c_X7_refuse l D cy md (thr N 0) co su hA 2) cf_X7_refuse wM_X7_95 hw.o rfl hw ⟨rfl, rfl, by decide, by decide⟩ rfl rfl (Nat.le_of_ble_eq_true rfl) ⟨Nat.le_of_ble_eq_true rfl, Nat.le_of_ble_eq_true rfl⟩ dX7_go_29) hS (fun _ h => h) (fun r_29 H1 locs hp1 z1 oq1 hS => ?_)
      obtain ⟨e9, hw⟩ := hp1
      subst e9
      rw [thr_thr] at hw
      exact ke_ui hx hb hr hlk hS dX7_go_32 (Or.inr (Or.inl ⟨by unfold kGo; rw [if_pos c_10, if_neg c_24], hw⟩))
  · have c_10 : ¬ bI (pOut x 0 (nI nr - 1)) = 0 := by have h := mIs_f c_10; rw [show thr N 0 0 10 = nI nr from hN.2.2] at h; exact h
    refine lv_aload_n hx hb dX7_go_13 rfl (lv_at hl 0 rfl) ?_
    refine lv_iconst (v := 1) hx hb dX7_go_14 (by decide) ?_
    refine kc_ui (kr_V (As := [.int 1]) (rest := []) hx hb hml hown hG (c_X7_refuse l D cy md (thr N 0) co su hA 1) cf_X7_refuse wM_X7_95 hw.o rfl hw ⟨rfl, rfl, by decide, by decide⟩ rfl rfl (Nat.le_of_ble_eq_true rfl) ⟨Nat.le_of_ble_eq_true rfl, Nat.le_of_ble_eq_true rfl⟩ dX7_go_15) hS (fun _ h => h) (fun r_15 H1 locs hp1 z1 oq1 hS => ?_)
    obtain ⟨e9, hw⟩ := hp1
    subst e9
    rw [thr_thr] at hw
    exact ke_ui hx hb hr hlk hS dX7_go_18 (Or.inl ⟨by unfold kGo; rw [if_neg c_10], hw⟩)
set_option maxHeartbeats 4000000 in
set_option maxRecDepth 100000 in
theorem c_X7_alert (l : Launch) (D : va_G) (cy : Nat → ClassId) (md : Nat → Nat) (N : Nat → Nat → Int32) (co su : Int64) (hA : MI md) (ns nt nr : Nat) (hL : LB ns nt nr) (hN : MN N ns nt nr) (x w : Int32) : Met l yX7_alert [.code yX7_alert cX7_alert 3 (some .int)] ({ frames := 2, cells := 0, slots := 0, locals := 43 } : Room) (PC D cy [.ref (md 0), .int x, .int w] (fun H => MW D cy md N co su H)) (UQi (MA md) (mOut D cy md N co su (kRng nr x w 1 24) (fun r H => ∃ i, i < nr ∧ x = nI i ∧ r = thr N 0 (40 + i) 7 ∧ MW D cy md (mset (thr N 0) (40 + i) (upd (thr N 0 (40 + i)) 7 w)) co su H))) 0 0 (MA md) := by
  refine k_body (by decide +kernel) (Nat.le_of_ble_eq_true rfl) ?_
  intro p e s m below meth c ls hx hb hml hown hr hlk hmn hl hG hI
  have hml9 : c.maxLocals = 3 := hml.trans hl.1
  have hl : lv_has ls 3 [(0, .ref (md 0)), (1, .int x), (2, .int w)] := hl
  have hS : va_S (MA md) s.heap s.heap [] := va_S.rf
  have hw := hI
  refine lv_aload_n hx hb dX7_alert_0 rfl (lv_at hl 0 rfl) ?_
  refine lv_iconst (v := 0) hx hb dX7_alert_1 (by decide) ?_
  refine k_put (ci := 7) (C := RX7) (T := TX7) (N := 20) (v := .int 0) hx hb hown hG rfl kin_X7 tyX7 tyX7_ok nmX7 hw.o hS MA.o 0 (by decide) wF_X7_41 rfl rfl rfl (Nat.le_of_ble_eq_true rfl) dX7_alert_2 (fun H1 locs hP1 z1 oq1 hS => ?_)
  have hw := hw.setO (r := (upd (N 0) 0 0)) (c' := co) (s' := su) hA hP1 oq1
  have hw : MW D cy md (thr N 0) co su H1 := hw
  refine lv_aload_n hx hb dX7_alert_5 rfl (lv_at hl 0 rfl) ?_
  refine lv_iload_n hx hb dX7_alert_6 rfl (lv_at hl 1 rfl) ?_
  refine kc_i (kr_V (As := [.int x]) (rest := []) hx hb hml hown hG (c_X7_isReceiver l D cy md (thr N 0) co su x) cf_X7_isReceiver wM_X7_115 hw.o rfl hw ⟨rfl, rfl, by decide, by decide⟩ rfl rfl (Nat.le_of_ble_eq_true rfl) ⟨Nat.le_of_ble_eq_true rfl, Nat.le_of_ble_eq_true rfl⟩ dX7_alert_7) ?_
  refine lv_if_ne (tgt := 19) hx hb dX7_alert_10 (by decide) (fun c_10 => ?_) (fun c_10 => ?_)
  · have c_10 : bI (pOut x 0 (nI nr - 1)) = 0 := by have h := mIs_t c_10; rw [show thr N 0 0 10 = nI nr from hN.2.2] at h; exact h
    obtain ⟨i, hi, ei⟩ := pOut_f (Nat.le_trans hL.2.2 (by decide)) c_10
    subst ei
    have hbi := Nat.lt_of_lt_of_le hi hL.2.2
    refine lv_iload_n hx hb dX7_alert_19 rfl (lv_at hl 2 rfl) ?_
    refine lv_iconst (v := 1) hx hb dX7_alert_20 (by decide) ?_
    refine lv_bipush (v := 24) hx hb dX7_alert_21 (by decide) ?_
    refine kc_i (kr_S (As := [.int w, .int 1, .int 24]) (rest := []) hx hb hml hown hG (c_X7_is l D cy w 1 24) cf_X7_is wM_X7_86 trivial ⟨rfl, rfl, by decide, by decide⟩ rfl rfl (Nat.le_of_ble_eq_true rfl) ⟨Nat.le_of_ble_eq_true rfl, Nat.le_of_ble_eq_true rfl⟩ dX7_alert_23) ?_
    refine lv_if_eq (tgt := 40) hx hb dX7_alert_26 (by decide) (fun c_26 => ?_) (fun c_26 => ?_)
    · have c_26 := mIs_f c_26
      refine lv_aload_n hx hb dX7_alert_40 rfl (lv_at hl 0 rfl) ?_
      refine lv_iconst (v := 2) hx hb dX7_alert_41 (by decide) ?_
      refine kc_ui (kr_V (As := [.int 2]) (rest := []) hx hb hml hown hG (c_X7_refuse l D cy md (thr N 0) co su hA 2) cf_X7_refuse wM_X7_95 hw.o rfl hw ⟨rfl, rfl, by decide, by decide⟩ rfl rfl (Nat.le_of_ble_eq_true rfl) ⟨Nat.le_of_ble_eq_true rfl, Nat.le_of_ble_eq_true rfl⟩ dX7_alert_42) hS (fun _ h => h) (fun r_42 H1 locs hp1 z1 oq1 hS => ?_)
      obtain ⟨e9, hw⟩ := hp1
      subst e9
      rw [thr_thr] at hw
      exact ke_ui hx hb hr hlk hS dX7_alert_45 (Or.inr (Or.inl ⟨by unfold kRng; rw [if_pos c_10, if_neg c_26], hw⟩))
    · have c_26 := mIs_t c_26
      refine lv_aload_n hx hb dX7_alert_29 rfl (lv_at hl 0 rfl) ?_
      refine lv_iload_n hx hb dX7_alert_30 rfl (lv_at hl 1 rfl) ?_
      refine lv_bipush (v := 7) hx hb dX7_alert_31 (by decide) ?_
      refine lv_iload_n hx hb dX7_alert_33 rfl (lv_at hl 2 rfl) ?_
      refine kc_ui (kr_V (As := [.int (nI i), .int 7, .int w]) (rest := []) hx hb hml hown hG (c_X7_change l D cy md (thr N 0) co su hA i hbi 7 w (show vp_in (nI 7) 22 from vp_in_nI (by decide) (by decide))) cf_X7_change wM_X7_130 hw.o rfl hw ⟨rfl, rfl, by decide, by decide⟩ rfl rfl (Nat.le_of_ble_eq_true rfl) ⟨Nat.le_of_ble_eq_true rfl, Nat.le_of_ble_eq_true rfl⟩ dX7_alert_34) hS (fun _ h => h) (fun r_34 H1 locs hp1 z1 oq1 hS => ?_)
      obtain ⟨e9, hw⟩ := hp1
      rw [show Int32.toNatClampNeg 7 = 7 from clI 7 (by decide)] at hw e9
      subst e9
      refine lv_goto (tgt := 45) hx hb dX7_alert_37 (by decide) ?_
      exact ke_ui hx hb hr hlk hS dX7_alert_45 (Or.inr (Or.inr ⟨by unfold kRng; rw [if_pos c_10, if_pos c_26], i, hi, rfl, rfl, hw⟩))
  · have c_10 : ¬ bI (pOut x 0 (nI nr - 1)) = 0 := by have h := mIs_f c_10; rw [show thr N 0 0 10 = nI nr from hN.2.2] at h; exact h
    refine lv_aload_n hx hb dX7_alert_13 rfl (lv_at hl 0 rfl) ?_
    refine lv_iconst (v := 1) hx hb dX7_alert_14 (by decide) ?_
    refine kc_ui (kr_V (As := [.int 1]) (rest := []) hx hb hml hown hG (c_X7_refuse l D cy md (thr N 0) co su hA 1) cf_X7_refuse wM_X7_95 hw.o rfl hw ⟨rfl, rfl, by decide, by decide⟩ rfl rfl (Nat.le_of_ble_eq_true rfl) ⟨Nat.le_of_ble_eq_true rfl, Nat.le_of_ble_eq_true rfl⟩ dX7_alert_15) hS (fun _ h => h) (fun r_15 H1 locs hp1 z1 oq1 hS => ?_)
    obtain ⟨e9, hw⟩ := hp1
    subst e9
    rw [thr_thr] at hw
    exact ke_ui hx hb hr hlk hS dX7_alert_18 (Or.inl ⟨by unfold kRng; rw [if_neg c_10], hw⟩)
set_option maxHeartbeats 4000000 in
set_option maxRecDepth 100000 in
theorem c_X7_spoof (l : Launch) (D : va_G) (cy : Nat → ClassId) (md : Nat → Nat) (N : Nat → Nat → Int32) (co su : Int64) (hA : MI md) (ns nt nr : Nat) (hL : LB ns nt nr) (hN : MN N ns nt nr) (x w : Int32) : Met l yX7_spoof [.code yX7_spoof cX7_spoof 3 (some .int)] ({ frames := 2, cells := 0, slots := 0, locals := 43 } : Room) (PC D cy [.ref (md 0), .int x, .int w] (fun H => MW D cy md N co su H)) (UQi (MA md) (mOut D cy md N co su (kRng nr x w (-30) 30) (fun r H => ∃ i, i < nr ∧ x = nI i ∧ r = thr N 0 (40 + i) 8 ∧ MW D cy md (mset (thr N 0) (40 + i) (upd (thr N 0 (40 + i)) 8 w)) co su H))) 0 0 (MA md) := by
  refine k_body (by decide +kernel) (Nat.le_of_ble_eq_true rfl) ?_
  intro p e s m below meth c ls hx hb hml hown hr hlk hmn hl hG hI
  have hml9 : c.maxLocals = 3 := hml.trans hl.1
  have hl : lv_has ls 3 [(0, .ref (md 0)), (1, .int x), (2, .int w)] := hl
  have hS : va_S (MA md) s.heap s.heap [] := va_S.rf
  have hw := hI
  refine lv_aload_n hx hb dX7_spoof_0 rfl (lv_at hl 0 rfl) ?_
  refine lv_iconst (v := 0) hx hb dX7_spoof_1 (by decide) ?_
  refine k_put (ci := 7) (C := RX7) (T := TX7) (N := 20) (v := .int 0) hx hb hown hG rfl kin_X7 tyX7 tyX7_ok nmX7 hw.o hS MA.o 0 (by decide) wF_X7_41 rfl rfl rfl (Nat.le_of_ble_eq_true rfl) dX7_spoof_2 (fun H1 locs hP1 z1 oq1 hS => ?_)
  have hw := hw.setO (r := (upd (N 0) 0 0)) (c' := co) (s' := su) hA hP1 oq1
  have hw : MW D cy md (thr N 0) co su H1 := hw
  refine lv_aload_n hx hb dX7_spoof_5 rfl (lv_at hl 0 rfl) ?_
  refine lv_iload_n hx hb dX7_spoof_6 rfl (lv_at hl 1 rfl) ?_
  refine kc_i (kr_V (As := [.int x]) (rest := []) hx hb hml hown hG (c_X7_isReceiver l D cy md (thr N 0) co su x) cf_X7_isReceiver wM_X7_115 hw.o rfl hw ⟨rfl, rfl, by decide, by decide⟩ rfl rfl (Nat.le_of_ble_eq_true rfl) ⟨Nat.le_of_ble_eq_true rfl, Nat.le_of_ble_eq_true rfl⟩ dX7_spoof_7) ?_
  refine lv_if_ne (tgt := 19) hx hb dX7_spoof_10 (by decide) (fun c_10 => ?_) (fun c_10 => ?_)
  · have c_10 : bI (pOut x 0 (nI nr - 1)) = 0 := by have h := mIs_t c_10; rw [show thr N 0 0 10 = nI nr from hN.2.2] at h; exact h
    obtain ⟨i, hi, ei⟩ := pOut_f (Nat.le_trans hL.2.2 (by decide)) c_10
    subst ei
    have hbi := Nat.lt_of_lt_of_le hi hL.2.2
    refine lv_iload_n hx hb dX7_spoof_19 rfl (lv_at hl 2 rfl) ?_
    refine lv_bipush (v := (-30)) hx hb dX7_spoof_20 (by decide) ?_
    refine lv_bipush (v := 30) hx hb dX7_spoof_22 (by decide) ?_
    refine kc_i (kr_S (As := [.int w, .int (-30), .int 30]) (rest := []) hx hb hml hown hG (c_X7_is l D cy w (-30) 30) cf_X7_is wM_X7_86 trivial ⟨rfl, rfl, by decide, by decide⟩ rfl rfl (Nat.le_of_ble_eq_true rfl) ⟨Nat.le_of_ble_eq_true rfl, Nat.le_of_ble_eq_true rfl⟩ dX7_spoof_24) ?_
    refine lv_if_eq (tgt := 41) hx hb dX7_spoof_27 (by decide) (fun c_27 => ?_) (fun c_27 => ?_)
    · have c_27 := mIs_f c_27
      refine lv_aload_n hx hb dX7_spoof_41 rfl (lv_at hl 0 rfl) ?_
      refine lv_iconst (v := 2) hx hb dX7_spoof_42 (by decide) ?_
      refine kc_ui (kr_V (As := [.int 2]) (rest := []) hx hb hml hown hG (c_X7_refuse l D cy md (thr N 0) co su hA 2) cf_X7_refuse wM_X7_95 hw.o rfl hw ⟨rfl, rfl, by decide, by decide⟩ rfl rfl (Nat.le_of_ble_eq_true rfl) ⟨Nat.le_of_ble_eq_true rfl, Nat.le_of_ble_eq_true rfl⟩ dX7_spoof_43) hS (fun _ h => h) (fun r_43 H1 locs hp1 z1 oq1 hS => ?_)
      obtain ⟨e9, hw⟩ := hp1
      subst e9
      rw [thr_thr] at hw
      exact ke_ui hx hb hr hlk hS dX7_spoof_46 (Or.inr (Or.inl ⟨by unfold kRng; rw [if_pos c_10, if_neg c_27], hw⟩))
    · have c_27 := mIs_t c_27
      refine lv_aload_n hx hb dX7_spoof_30 rfl (lv_at hl 0 rfl) ?_
      refine lv_iload_n hx hb dX7_spoof_31 rfl (lv_at hl 1 rfl) ?_
      refine lv_bipush (v := 8) hx hb dX7_spoof_32 (by decide) ?_
      refine lv_iload_n hx hb dX7_spoof_34 rfl (lv_at hl 2 rfl) ?_
      refine kc_ui (kr_V (As := [.int (nI i), .int 8, .int w]) (rest := []) hx hb hml hown hG (c_X7_change l D cy md (thr N 0) co su hA i hbi 8 w (show vp_in (nI 8) 22 from vp_in_nI (by decide) (by decide))) cf_X7_change wM_X7_130 hw.o rfl hw ⟨rfl, rfl, by decide, by decide⟩ rfl rfl (Nat.le_of_ble_eq_true rfl) ⟨Nat.le_of_ble_eq_true rfl, Nat.le_of_ble_eq_true rfl⟩ dX7_spoof_35) hS (fun _ h => h) (fun r_35 H1 locs hp1 z1 oq1 hS => ?_)
      obtain ⟨e9, hw⟩ := hp1
      rw [show Int32.toNatClampNeg 8 = 8 from clI 8 (by decide)] at hw e9
      subst e9
      refine lv_goto (tgt := 46) hx hb dX7_spoof_38 (by decide) ?_
      exact ke_ui hx hb hr hlk hS dX7_spoof_46 (Or.inr (Or.inr ⟨by unfold kRng; rw [if_pos c_10, if_pos c_27], i, hi, rfl, rfl, hw⟩))
  · have c_10 : ¬ bI (pOut x 0 (nI nr - 1)) = 0 := by have h := mIs_f c_10; rw [show thr N 0 0 10 = nI nr from hN.2.2] at h; exact h
    refine lv_aload_n hx hb dX7_spoof_13 rfl (lv_at hl 0 rfl) ?_
    refine lv_iconst (v := 1) hx hb dX7_spoof_14 (by decide) ?_
    refine kc_ui (kr_V (As := [.int 1]) (rest := []) hx hb hml hown hG (c_X7_refuse l D cy md (thr N 0) co su hA 1) cf_X7_refuse wM_X7_95 hw.o rfl hw ⟨rfl, rfl, by decide, by decide⟩ rfl rfl (Nat.le_of_ble_eq_true rfl) ⟨Nat.le_of_ble_eq_true rfl, Nat.le_of_ble_eq_true rfl⟩ dX7_spoof_15) hS (fun _ h => h) (fun r_15 H1 locs hp1 z1 oq1 hS => ?_)
    obtain ⟨e9, hw⟩ := hp1
    subst e9
    rw [thr_thr] at hw
    exact ke_ui hx hb hr hlk hS dX7_spoof_18 (Or.inl ⟨by unfold kRng; rw [if_neg c_10], hw⟩)
set_option maxHeartbeats 4000000 in
set_option maxRecDepth 100000 in
theorem c_X7_hills (l : Launch) (D : va_G) (cy : Nat → ClassId) (md : Nat → Nat) (N : Nat → Nat → Int32) (co su : Int64) (hA : MI md) (ns nt nr : Nat) (hL : LB ns nt nr) (hN : MN N ns nt nr) (x lf rt : Int32) : Met l yX7_hills [.code yX7_hills cX7_hills 4 (some .int)] ({ frames := 5, cells := 0, slots := 0, locals := 115 } : Room) (PC D cy [.ref (md 0), .int x, .int lf, .int rt] (fun H => MW D cy md N co su H)) (UQi (MA md) (mOut D cy md N co su (kHills nr x lf rt) (fun r H => ∃ i, i < nr ∧ x = nI i ∧ r = pBits (mSet (upd (upd (thr N 0 (40 + i)) 3 lf) 4 rt) (mset (thr N 0) (40 + i) (upd (upd (thr N 0 (40 + i)) 3 lf) 4 rt)) 0 ns) ∧ MW D cy md (mset (thr N 0) (40 + i) (upd (upd (thr N 0 (40 + i)) 3 lf) 4 rt)) co su H))) 0 0 (MA md) := by
  refine k_body (by decide +kernel) (Nat.le_of_ble_eq_true rfl) ?_
  intro p e s m below meth c ls hx hb hml hown hr hlk hmn hl hG hI
  have hml9 : c.maxLocals = 4 := hml.trans hl.1
  have hl : lv_has ls 4 [(0, .ref (md 0)), (1, .int x), (2, .int lf), (3, .int rt)] := hl
  have hS : va_S (MA md) s.heap s.heap [] := va_S.rf
  have hw := hI
  refine lv_aload_n hx hb dX7_hills_0 rfl (lv_at hl 0 rfl) ?_
  refine lv_iconst (v := 0) hx hb dX7_hills_1 (by decide) ?_
  refine k_put (ci := 7) (C := RX7) (T := TX7) (N := 20) (v := .int 0) hx hb hown hG rfl kin_X7 tyX7 tyX7_ok nmX7 hw.o hS MA.o 0 (by decide) wF_X7_41 rfl rfl rfl (Nat.le_of_ble_eq_true rfl) dX7_hills_2 (fun H1 locs hP1 z1 oq1 hS => ?_)
  have hw := hw.setO (r := (upd (N 0) 0 0)) (c' := co) (s' := su) hA hP1 oq1
  have hw : MW D cy md (thr N 0) co su H1 := hw
  refine lv_aload_n hx hb dX7_hills_5 rfl (lv_at hl 0 rfl) ?_
  refine lv_iload_n hx hb dX7_hills_6 rfl (lv_at hl 1 rfl) ?_
  refine kc_i (kr_V (As := [.int x]) (rest := []) hx hb hml hown hG (c_X7_isReceiver l D cy md (thr N 0) co su x) cf_X7_isReceiver wM_X7_115 hw.o rfl hw ⟨rfl, rfl, by decide, by decide⟩ rfl rfl (Nat.le_of_ble_eq_true rfl) ⟨Nat.le_of_ble_eq_true rfl, Nat.le_of_ble_eq_true rfl⟩ dX7_hills_7) ?_
  refine lv_if_ne (tgt := 19) hx hb dX7_hills_10 (by decide) (fun c_10 => ?_) (fun c_10 => ?_)
  · have c_10 : bI (pOut x 0 (nI nr - 1)) = 0 := by have h := mIs_t c_10; rw [show thr N 0 0 10 = nI nr from hN.2.2] at h; exact h
    obtain ⟨i, hi, ei⟩ := pOut_f (Nat.le_trans hL.2.2 (by decide)) c_10
    subst ei
    have hbi := Nat.lt_of_lt_of_le hi hL.2.2
    refine lv_iload_n hx hb dX7_hills_19 rfl (lv_at hl 2 rfl) ?_
    refine lv_iconst (v := 0) hx hb dX7_hills_20 (by decide) ?_
    refine lv_bipush (v := 60) hx hb dX7_hills_21 (by decide) ?_
    refine kc_i (kr_S (As := [.int lf, .int 0, .int 60]) (rest := []) hx hb hml hown hG (c_X7_is l D cy lf 0 60) cf_X7_is wM_X7_86 trivial ⟨rfl, rfl, by decide, by decide⟩ rfl rfl (Nat.le_of_ble_eq_true rfl) ⟨Nat.le_of_ble_eq_true rfl, Nat.le_of_ble_eq_true rfl⟩ dX7_hills_23) ?_
    refine lv_if_eq (tgt := 39) hx hb dX7_hills_26 (by decide) (fun c_26 => ?_) (fun c_26 => ?_)
    · have c_26 := mIs_f c_26
      refine lv_aload_n hx hb dX7_hills_39 rfl (lv_at hl 0 rfl) ?_
      refine lv_iconst (v := 2) hx hb dX7_hills_40 (by decide) ?_
      refine kc_ui (kr_V (As := [.int 2]) (rest := []) hx hb hml hown hG (c_X7_refuse l D cy md (thr N 0) co su hA 2) cf_X7_refuse wM_X7_95 hw.o rfl hw ⟨rfl, rfl, by decide, by decide⟩ rfl rfl (Nat.le_of_ble_eq_true rfl) ⟨Nat.le_of_ble_eq_true rfl, Nat.le_of_ble_eq_true rfl⟩ dX7_hills_41) hS (fun _ h => h) (fun r_41 H1 locs hp1 z1 oq1 hS => ?_)
      obtain ⟨e9, hw⟩ := hp1
      subst e9
      rw [thr_thr] at hw
      exact ke_ui hx hb hr hlk hS dX7_hills_44 (Or.inr (Or.inl ⟨by unfold kHills; rw [if_pos c_10, if_neg c_26], hw⟩))
    · have c_26 := mIs_t c_26
      refine lv_iload_n hx hb dX7_hills_29 rfl (lv_at hl 3 rfl) ?_
      refine lv_iconst (v := 0) hx hb dX7_hills_30 (by decide) ?_
      refine lv_bipush (v := 60) hx hb dX7_hills_31 (by decide) ?_
      refine kc_i (kr_S (As := [.int rt, .int 0, .int 60]) (rest := []) hx hb hml hown hG (c_X7_is l D cy rt 0 60) cf_X7_is wM_X7_86 trivial ⟨rfl, rfl, by decide, by decide⟩ rfl rfl (Nat.le_of_ble_eq_true rfl) ⟨Nat.le_of_ble_eq_true rfl, Nat.le_of_ble_eq_true rfl⟩ dX7_hills_33) ?_
      refine lv_if_ne (tgt := 45) hx hb dX7_hills_36 (by decide) (fun c_36 => ?_) (fun c_36 => ?_)
      · have c_36 := mIs_t c_36
        refine lv_aload_n hx hb dX7_hills_45 rfl (lv_at hl 0 rfl) ?_
        refine k_get (ci := 7) (C := RX7) (T := TX7) (N := 20) (v := .ref (md 4)) hx hb hown hG rfl kin_X7 hw.o 6 (by decide) wF_X7_20 rfl dX7_hills_46 ?_
        refine lv_iload_n hx hb dX7_hills_49 rfl (lv_at hl 1 rfl) ?_
        refine k_ald2 (v := (md (40 + i))) hx hb hG 5 rfl hw.a4 (vp_in_nI (n := i) hbi (by decide)) (mo_rc hbi) dX7_hills_50 ?_
        refine lv_iconst (v := 3) hx hb dX7_hills_51 (by decide) ?_
        refine lv_iload_n hx hb dX7_hills_52 rfl (lv_at hl 2 rfl) ?_
        refine k_iast hx hb hG (hw.rc hbi) hS (MA.i (mk_rc hbi)) (show vp_in (nI 3) 22 from vp_in_nI (by decide) (by decide)) dX7_hills_53 (fun H1 locs hP1 z1 oq1 hS => ?_)
        rw [show Int32.toNatClampNeg 3 = 3 from clI 3 (by decide)] at hP1
        have hw := hw.setI hA (mk_rc hbi) (ml_rc hbi) hP1 oq1
        refine lv_aload_n hx hb dX7_hills_54 rfl (lv_at hl 0 rfl) ?_
        refine k_get (ci := 7) (C := RX7) (T := TX7) (N := 20) (v := .ref (md 4)) hx hb hown hG rfl kin_X7 (show va_P D vwCl [(md 0, .inr (7, [.int ((thr N 0 0) 0), .int ((thr N 0 0) 1), .int ((thr N 0 0) 2), .ref (md 1), .ref (md 2), .ref (md 3), .ref (md 4), .ref (md 5), .int ((thr N 0 0) 8), .int ((thr N 0 0) 9), .int ((thr N 0 0) 10), .ref (md 6), .ref (md 7), .ref (md 8), .ref (md 9), .int ((thr N 0 0) 15), .int ((thr N 0 0) 16), .int ((thr N 0 0) 17), .long co, .long su]))] _ from by have h := hw.o; unfold mO at h; rw [mset_n (show (0 : Nat) ≠ 40 + i by omega)] at h; exact h) 6 (by decide) wF_X7_20 rfl dX7_hills_55 ?_
        refine lv_iload_n hx hb dX7_hills_58 rfl (lv_at hl 1 rfl) ?_
        refine k_ald2 (v := (md (40 + i))) hx hb hG 5 rfl hw.a4 (vp_in_nI (n := i) hbi (by decide)) (mo_rc hbi) dX7_hills_59 ?_
        refine lv_iconst (v := 4) hx hb dX7_hills_60 (by decide) ?_
        refine lv_iload_n hx hb dX7_hills_61 rfl (lv_at hl 3 rfl) ?_
        refine k_iast hx hb hG (show va_P D vwCl [(md (40 + i), .inl (cy 0, 22, .inl (upd (thr N 0 (40 + i)) 3 lf)))] _ from by have h := hw.rc hbi; rw [mset_s] at h; exact h) hS (MA.i (mk_rc hbi)) (show vp_in (nI 4) 22 from vp_in_nI (by decide) (by decide)) dX7_hills_62 (fun H1 locs hP1 z1 oq1 hS => ?_)
        rw [show Int32.toNatClampNeg 4 = 4 from clI 4 (by decide)] at hP1
        have hw := hw.setI hA (mk_rc hbi) (ml_rc hbi) hP1 oq1
        rw [mset_mset] at hw
        refine lv_aload_n hx hb dX7_hills_63 rfl (lv_at hl 0 rfl) ?_
        refine lv_iload_n hx hb dX7_hills_64 rfl (lv_at hl 1 rfl) ?_
        refine lv_iconst (v := 0) hx hb dX7_hills_65 (by decide) ?_
        refine kc_i (kr_V (As := [.int (nI i), .int 0]) (rest := []) hx hb hml hown hG (c_X7_setSeen l D cy md (mset (thr N 0) (40 + i) (upd (upd (thr N 0 (40 + i)) 3 lf) 4 rt)) co su ns hL.1 (by rw [mset_n (by omega)]; exact hN.1) i hbi 0) cf_X7_setSeen wM_X7_122 hw.o rfl hw ⟨rfl, rfl, by decide, by decide⟩ rfl rfl (Nat.le_of_ble_eq_true rfl) ⟨Nat.le_of_ble_eq_true rfl, Nat.le_of_ble_eq_true rfl⟩ dX7_hills_66) ?_
        refine kc_i (kr_S (As := [.int (mSet (mset (thr N 0) (40 + i) (upd (upd (thr N 0 (40 + i)) 3 lf) 4 rt) (40 + i)) (mset (thr N 0) (40 + i) (upd (upd (thr N 0 (40 + i)) 3 lf) 4 rt)) 0 ns)]) (rest := []) hx hb hml hown hG (c_J6_bitCount_0f7a4 l D cy (mSet (mset (thr N 0) (40 + i) (upd (upd (thr N 0 (40 + i)) 3 lf) 4 rt) (40 + i)) (mset (thr N 0) (40 + i) (upd (upd (thr N 0 (40 + i)) 3 lf) 4 rt)) 0 ns)) cf_J6_bitCount_0f7a4 wM_X7_125 trivial ⟨rfl, rfl, by decide, by decide⟩ rfl rfl (Nat.le_of_ble_eq_true rfl) ⟨Nat.le_of_ble_eq_true rfl, Nat.le_of_ble_eq_true rfl⟩ dX7_hills_69) ?_
        exact ke_ui hx hb hr hlk hS dX7_hills_72 (Or.inr (Or.inr ⟨by unfold kHills; rw [if_pos c_10, if_pos c_26, if_pos c_36], i, hi, rfl, (by rw [mset_s]), hw⟩))
      · have c_36 := mIs_f c_36
        refine lv_aload_n hx hb dX7_hills_39 rfl (lv_at hl 0 rfl) ?_
        refine lv_iconst (v := 2) hx hb dX7_hills_40 (by decide) ?_
        refine kc_ui (kr_V (As := [.int 2]) (rest := []) hx hb hml hown hG (c_X7_refuse l D cy md (thr N 0) co su hA 2) cf_X7_refuse wM_X7_95 hw.o rfl hw ⟨rfl, rfl, by decide, by decide⟩ rfl rfl (Nat.le_of_ble_eq_true rfl) ⟨Nat.le_of_ble_eq_true rfl, Nat.le_of_ble_eq_true rfl⟩ dX7_hills_41) hS (fun _ h => h) (fun r_41 H1 locs hp1 z1 oq1 hS => ?_)
        obtain ⟨e9, hw⟩ := hp1
        subst e9
        rw [thr_thr] at hw
        exact ke_ui hx hb hr hlk hS dX7_hills_44 (Or.inr (Or.inl ⟨by unfold kHills; rw [if_pos c_10, if_pos c_26, if_neg c_36], hw⟩))
  · have c_10 : ¬ bI (pOut x 0 (nI nr - 1)) = 0 := by have h := mIs_f c_10; rw [show thr N 0 0 10 = nI nr from hN.2.2] at h; exact h
    refine lv_aload_n hx hb dX7_hills_13 rfl (lv_at hl 0 rfl) ?_
    refine lv_iconst (v := 1) hx hb dX7_hills_14 (by decide) ?_
    refine kc_ui (kr_V (As := [.int 1]) (rest := []) hx hb hml hown hG (c_X7_refuse l D cy md (thr N 0) co su hA 1) cf_X7_refuse wM_X7_95 hw.o rfl hw ⟨rfl, rfl, by decide, by decide⟩ rfl rfl (Nat.le_of_ble_eq_true rfl) ⟨Nat.le_of_ble_eq_true rfl, Nat.le_of_ble_eq_true rfl⟩ dX7_hills_15) hS (fun _ h => h) (fun r_15 H1 locs hp1 z1 oq1 hS => ?_)
    obtain ⟨e9, hw⟩ := hp1
    subst e9
    rw [thr_thr] at hw
    exact ke_ui hx hb hr hlk hS dX7_hills_18 (Or.inl ⟨by unfold kHills; rw [if_neg c_10], hw⟩)
set_option maxHeartbeats 4000000 in
set_option maxRecDepth 100000 in
theorem c_X7_air (l : Launch) (D : va_G) (cy : Nat → ClassId) (md : Nat → Nat) (N : Nat → Nat → Int32) (co su : Int64) (hA : MI md) (ns nt nr : Nat) (hL : LB ns nt nr) (hN : MN N ns nt nr) (x io : Int32) (b : Bool) : Met l yX7_air [.code yX7_air cX7_air 4 (some .int)] ({ frames := 2, cells := 0, slots := 0, locals := 43 } : Room) (PC D cy [.ref (md 0), .int x, .int io, .int (bI b)] (fun H => MW D cy md N co su H)) (UQi (MA md) (mOut D cy md N co su (kRng nr x io 0 9) (fun r H => ∃ i, i < nr ∧ x = nI i ∧ r = upd (thr N 0 (40 + i)) 6 (bI b) 5 ∧ MW D cy md (mset (thr N 0) (40 + i) (upd (upd (thr N 0 (40 + i)) 6 (bI b)) 5 io)) co su H))) 0 0 (MA md) := by
  refine k_body (by decide +kernel) (Nat.le_of_ble_eq_true rfl) ?_
  intro p e s m below meth c ls hx hb hml hown hr hlk hmn hl hG hI
  have hml9 : c.maxLocals = 4 := hml.trans hl.1
  have hl : lv_has ls 4 [(0, .ref (md 0)), (1, .int x), (2, .int io), (3, .int (bI b))] := hl
  have hS : va_S (MA md) s.heap s.heap [] := va_S.rf
  have hw := hI
  refine lv_aload_n hx hb dX7_air_0 rfl (lv_at hl 0 rfl) ?_
  refine lv_iconst (v := 0) hx hb dX7_air_1 (by decide) ?_
  refine k_put (ci := 7) (C := RX7) (T := TX7) (N := 20) (v := .int 0) hx hb hown hG rfl kin_X7 tyX7 tyX7_ok nmX7 hw.o hS MA.o 0 (by decide) wF_X7_41 rfl rfl rfl (Nat.le_of_ble_eq_true rfl) dX7_air_2 (fun H1 locs hP1 z1 oq1 hS => ?_)
  have hw := hw.setO (r := (upd (N 0) 0 0)) (c' := co) (s' := su) hA hP1 oq1
  have hw : MW D cy md (thr N 0) co su H1 := hw
  refine lv_aload_n hx hb dX7_air_5 rfl (lv_at hl 0 rfl) ?_
  refine lv_iload_n hx hb dX7_air_6 rfl (lv_at hl 1 rfl) ?_
  refine kc_i (kr_V (As := [.int x]) (rest := []) hx hb hml hown hG (c_X7_isReceiver l D cy md (thr N 0) co su x) cf_X7_isReceiver wM_X7_115 hw.o rfl hw ⟨rfl, rfl, by decide, by decide⟩ rfl rfl (Nat.le_of_ble_eq_true rfl) ⟨Nat.le_of_ble_eq_true rfl, Nat.le_of_ble_eq_true rfl⟩ dX7_air_7) ?_
  refine lv_if_ne (tgt := 19) hx hb dX7_air_10 (by decide) (fun c_10 => ?_) (fun c_10 => ?_)
  · have c_10 : bI (pOut x 0 (nI nr - 1)) = 0 := by have h := mIs_t c_10; rw [show thr N 0 0 10 = nI nr from hN.2.2] at h; exact h
    obtain ⟨i, hi, ei⟩ := pOut_f (Nat.le_trans hL.2.2 (by decide)) c_10
    subst ei
    have hbi := Nat.lt_of_lt_of_le hi hL.2.2
    refine lv_iload_n hx hb dX7_air_19 rfl (lv_at hl 2 rfl) ?_
    refine lv_iconst (v := 0) hx hb dX7_air_20 (by decide) ?_
    refine lv_bipush (v := 9) hx hb dX7_air_21 (by decide) ?_
    refine kc_i (kr_S (As := [.int io, .int 0, .int 9]) (rest := []) hx hb hml hown hG (c_X7_is l D cy io 0 9) cf_X7_is wM_X7_86 trivial ⟨rfl, rfl, by decide, by decide⟩ rfl rfl (Nat.le_of_ble_eq_true rfl) ⟨Nat.le_of_ble_eq_true rfl, Nat.le_of_ble_eq_true rfl⟩ dX7_air_23) ?_
    refine lv_if_ne (tgt := 35) hx hb dX7_air_26 (by decide) (fun c_26 => ?_) (fun c_26 => ?_)
    · have c_26 := mIs_t c_26
      refine lv_aload_n hx hb dX7_air_35 rfl (lv_at hl 0 rfl) ?_
      refine k_get (ci := 7) (C := RX7) (T := TX7) (N := 20) (v := .ref (md 4)) hx hb hown hG rfl kin_X7 hw.o 6 (by decide) wF_X7_20 rfl dX7_air_36 ?_
      refine lv_iload_n hx hb dX7_air_39 rfl (lv_at hl 1 rfl) ?_
      refine k_ald2 (v := (md (40 + i))) hx hb hG 5 rfl hw.a4 (vp_in_nI (n := i) hbi (by decide)) (mo_rc hbi) dX7_air_40 ?_
      refine lv_bipush (v := 6) hx hb dX7_air_41 (by decide) ?_
      refine lv_iload_n hx hb dX7_air_43 rfl (lv_at hl 3 rfl) ?_
      refine lv_if_eq (tgt := 51) hx hb dX7_air_44 (by decide) (fun c_44 => ?_) (fun c_44 => ?_)
      · obtain rfl := bI_f c_44
        refine lv_iconst (v := 0) hx hb dX7_air_51 (by decide) ?_
        refine k_iast hx hb hG (hw.rc hbi) hS (MA.i (mk_rc hbi)) (show vp_in (nI 6) 22 from vp_in_nI (by decide) (by decide)) dX7_air_52 (fun H1 locs hP1 z1 oq1 hS => ?_)
        rw [show Int32.toNatClampNeg 6 = 6 from clI 6 (by decide)] at hP1
        have hw := hw.setI hA (mk_rc hbi) (ml_rc hbi) hP1 oq1
        refine lv_aload_n hx hb dX7_air_53 rfl (lv_at hl 0 rfl) ?_
        refine lv_iload_n hx hb dX7_air_54 rfl (lv_at hl 1 rfl) ?_
        refine lv_iconst (v := 5) hx hb dX7_air_55 (by decide) ?_
        refine lv_iload_n hx hb dX7_air_56 rfl (lv_at hl 2 rfl) ?_
        refine kc_ui (kr_V (As := [.int (nI i), .int 5, .int io]) (rest := []) hx hb hml hown hG (c_X7_change l D cy md (mset (thr N 0) (40 + i) (upd (thr N 0 (40 + i)) 6 0)) co su hA i hbi 5 io (show vp_in (nI 5) 22 from vp_in_nI (by decide) (by decide))) cf_X7_change wM_X7_130 hw.o rfl hw ⟨rfl, rfl, by decide, by decide⟩ rfl rfl (Nat.le_of_ble_eq_true rfl) ⟨Nat.le_of_ble_eq_true rfl, Nat.le_of_ble_eq_true rfl⟩ dX7_air_57) hS (fun _ h => h) (fun r_57 H1 locs hp1 z1 oq1 hS => ?_)
        obtain ⟨e9, hw⟩ := hp1
        rw [show Int32.toNatClampNeg 5 = 5 from clI 5 (by decide)] at hw e9
        rw [mset_s] at e9 hw
        subst e9
        rw [mset_mset] at hw
        exact ke_ui hx hb hr hlk hS dX7_air_60 (Or.inr (Or.inr ⟨by unfold kRng; rw [if_pos c_10, if_pos c_26], i, hi, rfl, rfl, hw⟩))
      · obtain rfl := bI_t c_44
        refine lv_iconst (v := 1) hx hb dX7_air_47 (by decide) ?_
        refine lv_goto (tgt := 52) hx hb dX7_air_48 (by decide) ?_
        refine k_iast hx hb hG (hw.rc hbi) hS (MA.i (mk_rc hbi)) (show vp_in (nI 6) 22 from vp_in_nI (by decide) (by decide)) dX7_air_52 (fun H1 locs hP1 z1 oq1 hS => ?_)
        rw [show Int32.toNatClampNeg 6 = 6 from clI 6 (by decide)] at hP1
        have hw := hw.setI hA (mk_rc hbi) (ml_rc hbi) hP1 oq1
        refine lv_aload_n hx hb dX7_air_53 rfl (lv_at hl 0 rfl) ?_
        refine lv_iload_n hx hb dX7_air_54 rfl (lv_at hl 1 rfl) ?_
        refine lv_iconst (v := 5) hx hb dX7_air_55 (by decide) ?_
        refine lv_iload_n hx hb dX7_air_56 rfl (lv_at hl 2 rfl) ?_
        refine kc_ui (kr_V (As := [.int (nI i), .int 5, .int io]) (rest := []) hx hb hml hown hG (c_X7_change l D cy md (mset (thr N 0) (40 + i) (upd (thr N 0 (40 + i)) 6 1)) co su hA i hbi 5 io (show vp_in (nI 5) 22 from vp_in_nI (by decide) (by decide))) cf_X7_change wM_X7_130 hw.o rfl hw ⟨rfl, rfl, by decide, by decide⟩ rfl rfl (Nat.le_of_ble_eq_true rfl) ⟨Nat.le_of_ble_eq_true rfl, Nat.le_of_ble_eq_true rfl⟩ dX7_air_57) hS (fun _ h => h) (fun r_57 H1 locs hp1 z1 oq1 hS => ?_)
        obtain ⟨e9, hw⟩ := hp1
        rw [show Int32.toNatClampNeg 5 = 5 from clI 5 (by decide)] at hw e9
        rw [mset_s] at e9 hw
        subst e9
        rw [mset_mset] at hw
        exact ke_ui hx hb hr hlk hS dX7_air_60 (Or.inr (Or.inr ⟨by unfold kRng; rw [if_pos c_10, if_pos c_26], i, hi, rfl, rfl, hw⟩))
    · have c_26 := mIs_f c_26
      refine lv_aload_n hx hb dX7_air_29 rfl (lv_at hl 0 rfl) ?_
      refine lv_iconst (v := 2) hx hb dX7_air_30 (by decide) ?_
      refine kc_ui (kr_V (As := [.int 2]) (rest := []) hx hb hml hown hG (c_X7_refuse l D cy md (thr N 0) co su hA 2) cf_X7_refuse wM_X7_95 hw.o rfl hw ⟨rfl, rfl, by decide, by decide⟩ rfl rfl (Nat.le_of_ble_eq_true rfl) ⟨Nat.le_of_ble_eq_true rfl, Nat.le_of_ble_eq_true rfl⟩ dX7_air_31) hS (fun _ h => h) (fun r_31 H1 locs hp1 z1 oq1 hS => ?_)
      obtain ⟨e9, hw⟩ := hp1
      subst e9
      rw [thr_thr] at hw
      exact ke_ui hx hb hr hlk hS dX7_air_34 (Or.inr (Or.inl ⟨by unfold kRng; rw [if_pos c_10, if_neg c_26], hw⟩))
  · have c_10 : ¬ bI (pOut x 0 (nI nr - 1)) = 0 := by have h := mIs_f c_10; rw [show thr N 0 0 10 = nI nr from hN.2.2] at h; exact h
    refine lv_aload_n hx hb dX7_air_13 rfl (lv_at hl 0 rfl) ?_
    refine lv_iconst (v := 1) hx hb dX7_air_14 (by decide) ?_
    refine kc_ui (kr_V (As := [.int 1]) (rest := []) hx hb hml hown hG (c_X7_refuse l D cy md (thr N 0) co su hA 1) cf_X7_refuse wM_X7_95 hw.o rfl hw ⟨rfl, rfl, by decide, by decide⟩ rfl rfl (Nat.le_of_ble_eq_true rfl) ⟨Nat.le_of_ble_eq_true rfl, Nat.le_of_ble_eq_true rfl⟩ dX7_air_15) hS (fun _ h => h) (fun r_15 H1 locs hp1 z1 oq1 hS => ?_)
    obtain ⟨e9, hw⟩ := hp1
    subst e9
    rw [thr_thr] at hw
    exact ke_ui hx hb hr hlk hS dX7_air_18 (Or.inl ⟨by unfold kRng; rw [if_neg c_10], hw⟩)
set_option maxHeartbeats 4000000 in
set_option maxRecDepth 100000 in
theorem c_X7_refer (l : Launch) (D : va_G) (cy : Nat → ClassId) (md : Nat → Nat) (N : Nat → Nat → Int32) (co su : Int64) (hA : MI md) (ns nt nr : Nat) (hL : LB ns nt nr) (hN : MN N ns nt nr) (x y : Int32) : Met l yX7_refer [.code yX7_refer cX7_refer 3 (some .int)] ({ frames := 2, cells := 0, slots := 0, locals := 43 } : Room) (PC D cy [.ref (md 0), .int x, .int y] (fun H => MW D cy md N co su H)) (UQi (MA md) (mOut D cy md N co su (kRefer nr x y) (fun r H => ∃ i, i < nr ∧ x = nI i ∧ r = thr N 0 (40 + i) 9 ∧ MW D cy md (mset (thr N 0) (40 + i) (upd (thr N 0 (40 + i)) 9 y)) co su H))) 0 0 (MA md) := by
  refine k_body (by decide +kernel) (Nat.le_of_ble_eq_true rfl) ?_
  intro p e s m below meth c ls hx hb hml hown hr hlk hmn hl hG hI
  have hml9 : c.maxLocals = 3 := hml.trans hl.1
  have hl : lv_has ls 3 [(0, .ref (md 0)), (1, .int x), (2, .int y)] := hl
  have hS : va_S (MA md) s.heap s.heap [] := va_S.rf
  have hw := hI
  refine lv_aload_n hx hb dX7_refer_0 rfl (lv_at hl 0 rfl) ?_
  refine lv_iconst (v := 0) hx hb dX7_refer_1 (by decide) ?_
  refine k_put (ci := 7) (C := RX7) (T := TX7) (N := 20) (v := .int 0) hx hb hown hG rfl kin_X7 tyX7 tyX7_ok nmX7 hw.o hS MA.o 0 (by decide) wF_X7_41 rfl rfl rfl (Nat.le_of_ble_eq_true rfl) dX7_refer_2 (fun H1 locs hP1 z1 oq1 hS => ?_)
  have hw := hw.setO (r := (upd (N 0) 0 0)) (c' := co) (s' := su) hA hP1 oq1
  have hw : MW D cy md (thr N 0) co su H1 := hw
  refine lv_aload_n hx hb dX7_refer_5 rfl (lv_at hl 0 rfl) ?_
  refine lv_iload_n hx hb dX7_refer_6 rfl (lv_at hl 1 rfl) ?_
  refine kc_i (kr_V (As := [.int x]) (rest := []) hx hb hml hown hG (c_X7_isReceiver l D cy md (thr N 0) co su x) cf_X7_isReceiver wM_X7_115 hw.o rfl hw ⟨rfl, rfl, by decide, by decide⟩ rfl rfl (Nat.le_of_ble_eq_true rfl) ⟨Nat.le_of_ble_eq_true rfl, Nat.le_of_ble_eq_true rfl⟩ dX7_refer_7) ?_
  refine lv_if_eq (tgt := 26) hx hb dX7_refer_10 (by decide) (fun c_10 => ?_) (fun c_10 => ?_)
  · have c_10 : ¬ bI (pOut x 0 (nI nr - 1)) = 0 := by have h := mIs_f c_10; rw [show thr N 0 0 10 = nI nr from hN.2.2] at h; exact h
    refine lv_aload_n hx hb dX7_refer_26 rfl (lv_at hl 0 rfl) ?_
    refine lv_iconst (v := 1) hx hb dX7_refer_27 (by decide) ?_
    refine kc_ui (kr_V (As := [.int 1]) (rest := []) hx hb hml hown hG (c_X7_refuse l D cy md (thr N 0) co su hA 1) cf_X7_refuse wM_X7_95 hw.o rfl hw ⟨rfl, rfl, by decide, by decide⟩ rfl rfl (Nat.le_of_ble_eq_true rfl) ⟨Nat.le_of_ble_eq_true rfl, Nat.le_of_ble_eq_true rfl⟩ dX7_refer_28) hS (fun _ h => h) (fun r_28 H1 locs hp1 z1 oq1 hS => ?_)
    obtain ⟨e9, hw⟩ := hp1
    subst e9
    rw [thr_thr] at hw
    exact ke_ui hx hb hr hlk hS dX7_refer_31 (Or.inl ⟨by unfold kRefer; rw [if_neg c_10], hw⟩)
  · have c_10 : bI (pOut x 0 (nI nr - 1)) = 0 := by have h := mIs_t c_10; rw [show thr N 0 0 10 = nI nr from hN.2.2] at h; exact h
    obtain ⟨i, hi, ei⟩ := pOut_f (Nat.le_trans hL.2.2 (by decide)) c_10
    subst ei
    have hbi := Nat.lt_of_lt_of_le hi hL.2.2
    refine lv_iload_n hx hb dX7_refer_13 rfl (lv_at hl 2 rfl) ?_
    refine lv_iconst (v := (-1)) hx hb dX7_refer_14 (by decide) ?_
    refine lv_icmp_eq (tgt := 32) hx hb dX7_refer_15 (by decide) (fun c_15 => ?_) (fun c_15 => ?_)
    · refine lv_iload_n hx hb dX7_refer_32 rfl (lv_at hl 1 rfl) ?_
      refine lv_iload_n hx hb dX7_refer_33 rfl (lv_at hl 2 rfl) ?_
      refine lv_icmp_eq (tgt := 48) hx hb dX7_refer_34 (by decide) (fun c_34 => ?_) (fun c_34 => ?_)
      · refine lv_aload_n hx hb dX7_refer_48 rfl (lv_at hl 0 rfl) ?_
        refine lv_iconst (v := 2) hx hb dX7_refer_49 (by decide) ?_
        refine kc_ui (kr_V (As := [.int 2]) (rest := []) hx hb hml hown hG (c_X7_refuse l D cy md (thr N 0) co su hA 2) cf_X7_refuse wM_X7_95 hw.o rfl hw ⟨rfl, rfl, by decide, by decide⟩ rfl rfl (Nat.le_of_ble_eq_true rfl) ⟨Nat.le_of_ble_eq_true rfl, Nat.le_of_ble_eq_true rfl⟩ dX7_refer_50) hS (fun _ h => h) (fun r_50 H1 locs hp1 z1 oq1 hS => ?_)
        obtain ⟨e9, hw⟩ := hp1
        subst e9
        rw [thr_thr] at hw
        exact ke_ui hx hb hr hlk hS dX7_refer_53 (Or.inr (Or.inl ⟨by unfold kRefer; rw [if_pos c_10, if_pos c_15, if_pos c_34], hw⟩))
      · refine lv_aload_n hx hb dX7_refer_37 rfl (lv_at hl 0 rfl) ?_
        refine lv_iload_n hx hb dX7_refer_38 rfl (lv_at hl 1 rfl) ?_
        refine lv_bipush (v := 9) hx hb dX7_refer_39 (by decide) ?_
        refine lv_iload_n hx hb dX7_refer_41 rfl (lv_at hl 2 rfl) ?_
        refine kc_ui (kr_V (As := [.int (nI i), .int 9, .int y]) (rest := []) hx hb hml hown hG (c_X7_change l D cy md (thr N 0) co su hA i hbi 9 y (show vp_in (nI 9) 22 from vp_in_nI (by decide) (by decide))) cf_X7_change wM_X7_130 hw.o rfl hw ⟨rfl, rfl, by decide, by decide⟩ rfl rfl (Nat.le_of_ble_eq_true rfl) ⟨Nat.le_of_ble_eq_true rfl, Nat.le_of_ble_eq_true rfl⟩ dX7_refer_42) hS (fun _ h => h) (fun r_42 H1 locs hp1 z1 oq1 hS => ?_)
        obtain ⟨e9, hw⟩ := hp1
        rw [show Int32.toNatClampNeg 9 = 9 from clI 9 (by decide)] at hw e9
        subst e9
        refine lv_goto (tgt := 53) hx hb dX7_refer_45 (by decide) ?_
        exact ke_ui hx hb hr hlk hS dX7_refer_53 (Or.inr (Or.inr ⟨by unfold kRefer; rw [if_pos c_10, if_pos c_15, if_neg c_34], i, hi, rfl, rfl, hw⟩))
    · refine lv_aload_n hx hb dX7_refer_18 rfl (lv_at hl 0 rfl) ?_
      refine lv_iload_n hx hb dX7_refer_19 rfl (lv_at hl 2 rfl) ?_
      refine kc_i (kr_V (As := [.int y]) (rest := []) hx hb hml hown hG (c_X7_isReceiver l D cy md (thr N 0) co su y) cf_X7_isReceiver wM_X7_115 hw.o rfl hw ⟨rfl, rfl, by decide, by decide⟩ rfl rfl (Nat.le_of_ble_eq_true rfl) ⟨Nat.le_of_ble_eq_true rfl, Nat.le_of_ble_eq_true rfl⟩ dX7_refer_20) ?_
      refine lv_if_ne (tgt := 32) hx hb dX7_refer_23 (by decide) (fun c_23 => ?_) (fun c_23 => ?_)
      · have c_23 : bI (pOut y 0 (nI nr - 1)) = 0 := by have h := mIs_t c_23; rw [show thr N 0 0 10 = nI nr from hN.2.2] at h; exact h
        refine lv_iload_n hx hb dX7_refer_32 rfl (lv_at hl 1 rfl) ?_
        refine lv_iload_n hx hb dX7_refer_33 rfl (lv_at hl 2 rfl) ?_
        refine lv_icmp_eq (tgt := 48) hx hb dX7_refer_34 (by decide) (fun c_34 => ?_) (fun c_34 => ?_)
        · refine lv_aload_n hx hb dX7_refer_48 rfl (lv_at hl 0 rfl) ?_
          refine lv_iconst (v := 2) hx hb dX7_refer_49 (by decide) ?_
          refine kc_ui (kr_V (As := [.int 2]) (rest := []) hx hb hml hown hG (c_X7_refuse l D cy md (thr N 0) co su hA 2) cf_X7_refuse wM_X7_95 hw.o rfl hw ⟨rfl, rfl, by decide, by decide⟩ rfl rfl (Nat.le_of_ble_eq_true rfl) ⟨Nat.le_of_ble_eq_true rfl, Nat.le_of_ble_eq_true rfl⟩ dX7_refer_50) hS (fun _ h => h) (fun r_50 H1 locs hp1 z1 oq1 hS => ?_)
          obtain ⟨e9, hw⟩ := hp1
          subst e9
          rw [thr_thr] at hw
          exact ke_ui hx hb hr hlk hS dX7_refer_53 (Or.inr (Or.inl ⟨by unfold kRefer; rw [if_pos c_10, if_neg c_15, if_pos c_23, if_pos c_34], hw⟩))
        · refine lv_aload_n hx hb dX7_refer_37 rfl (lv_at hl 0 rfl) ?_
          refine lv_iload_n hx hb dX7_refer_38 rfl (lv_at hl 1 rfl) ?_
          refine lv_bipush (v := 9) hx hb dX7_refer_39 (by decide) ?_
          refine lv_iload_n hx hb dX7_refer_41 rfl (lv_at hl 2 rfl) ?_
          refine kc_ui (kr_V (As := [.int (nI i), .int 9, .int y]) (rest := []) hx hb hml hown hG (c_X7_change l D cy md (thr N 0) co su hA i hbi 9 y (show vp_in (nI 9) 22 from vp_in_nI (by decide) (by decide))) cf_X7_change wM_X7_130 hw.o rfl hw ⟨rfl, rfl, by decide, by decide⟩ rfl rfl (Nat.le_of_ble_eq_true rfl) ⟨Nat.le_of_ble_eq_true rfl, Nat.le_of_ble_eq_true rfl⟩ dX7_refer_42) hS (fun _ h => h) (fun r_42 H1 locs hp1 z1 oq1 hS => ?_)
          obtain ⟨e9, hw⟩ := hp1
          rw [show Int32.toNatClampNeg 9 = 9 from clI 9 (by decide)] at hw e9
          subst e9
          refine lv_goto (tgt := 53) hx hb dX7_refer_45 (by decide) ?_
          exact ke_ui hx hb hr hlk hS dX7_refer_53 (Or.inr (Or.inr ⟨by unfold kRefer; rw [if_pos c_10, if_neg c_15, if_pos c_23, if_neg c_34], i, hi, rfl, rfl, hw⟩))
      · have c_23 : ¬ bI (pOut y 0 (nI nr - 1)) = 0 := by have h := mIs_f c_23; rw [show thr N 0 0 10 = nI nr from hN.2.2] at h; exact h
        refine lv_aload_n hx hb dX7_refer_26 rfl (lv_at hl 0 rfl) ?_
        refine lv_iconst (v := 1) hx hb dX7_refer_27 (by decide) ?_
        refine kc_ui (kr_V (As := [.int 1]) (rest := []) hx hb hml hown hG (c_X7_refuse l D cy md (thr N 0) co su hA 1) cf_X7_refuse wM_X7_95 hw.o rfl hw ⟨rfl, rfl, by decide, by decide⟩ rfl rfl (Nat.le_of_ble_eq_true rfl) ⟨Nat.le_of_ble_eq_true rfl, Nat.le_of_ble_eq_true rfl⟩ dX7_refer_28) hS (fun _ h => h) (fun r_28 H1 locs hp1 z1 oq1 hS => ?_)
        obtain ⟨e9, hw⟩ := hp1
        subst e9
        rw [thr_thr] at hw
        exact ke_ui hx hb hr hlk hS dX7_refer_31 (Or.inl ⟨by unfold kRefer; rw [if_pos c_10, if_neg c_15, if_neg c_23], hw⟩)
set_option maxHeartbeats 4000000 in
set_option maxRecDepth 100000 in
theorem c_X7_ofStar (l : Launch) (D : va_G) (cy : Nat → ClassId) (md : Nat → Nat) (N : Nat → Nat → Int32) (co su : Int64) (hA : MI md) (ns nt nr : Nat) (hL : LB ns nt nr) (hN : MN N ns nt nr) (x w : Int32) : Met l yX7_ofStar [.code yX7_ofStar cX7_ofStar 3 (some .int)] ({ frames := 4, cells := 0, slots := 0, locals := 88 } : Room) (PC D cy [.ref (md 0), .int x, .int w] (fun H => MW D cy md N co su H)) (UQi (MA md) (mOut D cy md N co su (kRng ns x w 0 7) (fun r H => ∃ i, i < ns ∧ x = nI i ∧ r = mOfStar (thr N 0 (10 + i)) w ∧ MW D cy md (thr N 0) co su H))) 0 0 (MA md) := by
  refine k_body (by decide +kernel) (Nat.le_of_ble_eq_true rfl) ?_
  intro p e s m below meth c ls hx hb hml hown hr hlk hmn hl hG hI
  have hml9 : c.maxLocals = 3 := hml.trans hl.1
  have hl : lv_has ls 3 [(0, .ref (md 0)), (1, .int x), (2, .int w)] := hl
  have hS : va_S (MA md) s.heap s.heap [] := va_S.rf
  have hw := hI
  refine lv_aload_n hx hb dX7_ofStar_0 rfl (lv_at hl 0 rfl) ?_
  refine lv_iconst (v := 0) hx hb dX7_ofStar_1 (by decide) ?_
  refine k_put (ci := 7) (C := RX7) (T := TX7) (N := 20) (v := .int 0) hx hb hown hG rfl kin_X7 tyX7 tyX7_ok nmX7 hw.o hS MA.o 0 (by decide) wF_X7_41 rfl rfl rfl (Nat.le_of_ble_eq_true rfl) dX7_ofStar_2 (fun H1 locs hP1 z1 oq1 hS => ?_)
  have hw := hw.setO (r := (upd (N 0) 0 0)) (c' := co) (s' := su) hA hP1 oq1
  have hw : MW D cy md (thr N 0) co su H1 := hw
  refine lv_aload_n hx hb dX7_ofStar_5 rfl (lv_at hl 0 rfl) ?_
  refine lv_iload_n hx hb dX7_ofStar_6 rfl (lv_at hl 1 rfl) ?_
  refine kc_i (kr_V (As := [.int x]) (rest := []) hx hb hml hown hG (c_X7_isStar l D cy md (thr N 0) co su x) cf_X7_isStar wM_X7_98 hw.o rfl hw ⟨rfl, rfl, by decide, by decide⟩ rfl rfl (Nat.le_of_ble_eq_true rfl) ⟨Nat.le_of_ble_eq_true rfl, Nat.le_of_ble_eq_true rfl⟩ dX7_ofStar_7) ?_
  refine lv_if_ne (tgt := 19) hx hb dX7_ofStar_10 (by decide) (fun c_10 => ?_) (fun c_10 => ?_)
  · have c_10 : bI (pOut x 0 (nI ns - 1)) = 0 := by have h := mIs_t c_10; rw [show thr N 0 0 8 = nI ns from hN.1] at h; exact h
    obtain ⟨i, hi, ei⟩ := pOut_f hL.1 c_10
    subst ei
    have hbi := Nat.lt_of_lt_of_le hi hL.1
    refine lv_iload_n hx hb dX7_ofStar_19 rfl (lv_at hl 2 rfl) ?_
    refine lv_iconst (v := 0) hx hb dX7_ofStar_20 (by decide) ?_
    refine lv_bipush (v := 7) hx hb dX7_ofStar_21 (by decide) ?_
    refine kc_i (kr_S (As := [.int w, .int 0, .int 7]) (rest := []) hx hb hml hown hG (c_X7_is l D cy w 0 7) cf_X7_is wM_X7_86 trivial ⟨rfl, rfl, by decide, by decide⟩ rfl rfl (Nat.le_of_ble_eq_true rfl) ⟨Nat.le_of_ble_eq_true rfl, Nat.le_of_ble_eq_true rfl⟩ dX7_ofStar_23) ?_
    refine lv_if_eq (tgt := 38) hx hb dX7_ofStar_26 (by decide) (fun c_26 => ?_) (fun c_26 => ?_)
    · have c_26 := mIs_f c_26
      refine lv_aload_n hx hb dX7_ofStar_38 rfl (lv_at hl 0 rfl) ?_
      refine lv_iconst (v := 2) hx hb dX7_ofStar_39 (by decide) ?_
      refine kc_ui (kr_V (As := [.int 2]) (rest := []) hx hb hml hown hG (c_X7_refuse l D cy md (thr N 0) co su hA 2) cf_X7_refuse wM_X7_95 hw.o rfl hw ⟨rfl, rfl, by decide, by decide⟩ rfl rfl (Nat.le_of_ble_eq_true rfl) ⟨Nat.le_of_ble_eq_true rfl, Nat.le_of_ble_eq_true rfl⟩ dX7_ofStar_40) hS (fun _ h => h) (fun r_40 H1 locs hp1 z1 oq1 hS => ?_)
      obtain ⟨e9, hw⟩ := hp1
      subst e9
      rw [thr_thr] at hw
      exact ke_ui hx hb hr hlk hS dX7_ofStar_43 (Or.inr (Or.inl ⟨by unfold kRng; rw [if_pos c_10, if_neg c_26], hw⟩))
    · have c_26 := mIs_t c_26
      refine lv_aload_n hx hb dX7_ofStar_29 rfl (lv_at hl 0 rfl) ?_
      refine lv_iload_n hx hb dX7_ofStar_30 rfl (lv_at hl 1 rfl) ?_
      refine lv_iload_n hx hb dX7_ofStar_31 rfl (lv_at hl 2 rfl) ?_
      refine kc_i (kr_V (As := [.int (nI i), .int w]) (rest := []) hx hb hml hown hG (c_X7_ofStarNow l D cy md (thr N 0) co su i hbi w (out_0 c_26).1) cf_X7_ofStarNow wM_X7_205 hw.o rfl hw ⟨rfl, rfl, by decide, by decide⟩ rfl rfl (Nat.le_of_ble_eq_true rfl) ⟨Nat.le_of_ble_eq_true rfl, Nat.le_of_ble_eq_true rfl⟩ dX7_ofStar_32) ?_
      refine lv_goto (tgt := 43) hx hb dX7_ofStar_35 (by decide) ?_
      exact ke_ui hx hb hr hlk hS dX7_ofStar_43 (Or.inr (Or.inr ⟨by unfold kRng; rw [if_pos c_10, if_pos c_26], i, hi, rfl, rfl, hw⟩))
  · have c_10 : ¬ bI (pOut x 0 (nI ns - 1)) = 0 := by have h := mIs_f c_10; rw [show thr N 0 0 8 = nI ns from hN.1] at h; exact h
    refine lv_aload_n hx hb dX7_ofStar_13 rfl (lv_at hl 0 rfl) ?_
    refine lv_iconst (v := 1) hx hb dX7_ofStar_14 (by decide) ?_
    refine kc_ui (kr_V (As := [.int 1]) (rest := []) hx hb hml hown hG (c_X7_refuse l D cy md (thr N 0) co su hA 1) cf_X7_refuse wM_X7_95 hw.o rfl hw ⟨rfl, rfl, by decide, by decide⟩ rfl rfl (Nat.le_of_ble_eq_true rfl) ⟨Nat.le_of_ble_eq_true rfl, Nat.le_of_ble_eq_true rfl⟩ dX7_ofStar_15) hS (fun _ h => h) (fun r_15 H1 locs hp1 z1 oq1 hS => ?_)
    obtain ⟨e9, hw⟩ := hp1
    subst e9
    rw [thr_thr] at hw
    exact ke_ui hx hb hr hlk hS dX7_ofStar_18 (Or.inl ⟨by unfold kRng; rw [if_neg c_10], hw⟩)
set_option maxHeartbeats 4000000 in
set_option maxRecDepth 100000 in
theorem c_X7_message (l : Launch) (D : va_G) (cy : Nat → ClassId) (md : Nat → Nat) (N : Nat → Nat → Int32) (co su : Int64) (hA : MI md) (ns nt nr : Nat) (hL : LB ns nt nr) (hN : MN N ns nt nr) (x w : Int32) : Met l yX7_message [.code yX7_message cX7_message 3 (some .int)] ({ frames := 5, cells := 0, slots := 0, locals := 111 } : Room) (PC D cy [.ref (md 0), .int x, .int w] (fun H => MW D cy md N co su H)) (UQi (MA md) (mOut D cy md N co su (kRng ns x w 0 7) (fun r H => ∃ i, i < ns ∧ x = nI i ∧ r = mMsg (thr N 0 0 1) (thr N 0 (10 + i)) (thr N 0 (20 + i)) w ∧ MW D cy md (thr N 0) co su H))) 0 0 (MA md) := by
  refine k_body (by decide +kernel) (Nat.le_of_ble_eq_true rfl) ?_
  intro p e s m below meth c ls hx hb hml hown hr hlk hmn hl hG hI
  have hml9 : c.maxLocals = 3 := hml.trans hl.1
  have hl : lv_has ls 3 [(0, .ref (md 0)), (1, .int x), (2, .int w)] := hl
  have hS : va_S (MA md) s.heap s.heap [] := va_S.rf
  have hw := hI
  refine lv_aload_n hx hb dX7_message_0 rfl (lv_at hl 0 rfl) ?_
  refine lv_iconst (v := 0) hx hb dX7_message_1 (by decide) ?_
  refine k_put (ci := 7) (C := RX7) (T := TX7) (N := 20) (v := .int 0) hx hb hown hG rfl kin_X7 tyX7 tyX7_ok nmX7 hw.o hS MA.o 0 (by decide) wF_X7_41 rfl rfl rfl (Nat.le_of_ble_eq_true rfl) dX7_message_2 (fun H1 locs hP1 z1 oq1 hS => ?_)
  have hw := hw.setO (r := (upd (N 0) 0 0)) (c' := co) (s' := su) hA hP1 oq1
  have hw : MW D cy md (thr N 0) co su H1 := hw
  refine lv_aload_n hx hb dX7_message_5 rfl (lv_at hl 0 rfl) ?_
  refine lv_iload_n hx hb dX7_message_6 rfl (lv_at hl 1 rfl) ?_
  refine kc_i (kr_V (As := [.int x]) (rest := []) hx hb hml hown hG (c_X7_isStar l D cy md (thr N 0) co su x) cf_X7_isStar wM_X7_98 hw.o rfl hw ⟨rfl, rfl, by decide, by decide⟩ rfl rfl (Nat.le_of_ble_eq_true rfl) ⟨Nat.le_of_ble_eq_true rfl, Nat.le_of_ble_eq_true rfl⟩ dX7_message_7) ?_
  refine lv_if_ne (tgt := 19) hx hb dX7_message_10 (by decide) (fun c_10 => ?_) (fun c_10 => ?_)
  · have c_10 : bI (pOut x 0 (nI ns - 1)) = 0 := by have h := mIs_t c_10; rw [show thr N 0 0 8 = nI ns from hN.1] at h; exact h
    obtain ⟨i, hi, ei⟩ := pOut_f hL.1 c_10
    subst ei
    have hbi := Nat.lt_of_lt_of_le hi hL.1
    refine lv_iload_n hx hb dX7_message_19 rfl (lv_at hl 2 rfl) ?_
    refine lv_iconst (v := 0) hx hb dX7_message_20 (by decide) ?_
    refine lv_bipush (v := 7) hx hb dX7_message_21 (by decide) ?_
    refine kc_i (kr_S (As := [.int w, .int 0, .int 7]) (rest := []) hx hb hml hown hG (c_X7_is l D cy w 0 7) cf_X7_is wM_X7_86 trivial ⟨rfl, rfl, by decide, by decide⟩ rfl rfl (Nat.le_of_ble_eq_true rfl) ⟨Nat.le_of_ble_eq_true rfl, Nat.le_of_ble_eq_true rfl⟩ dX7_message_23) ?_
    refine lv_if_eq (tgt := 38) hx hb dX7_message_26 (by decide) (fun c_26 => ?_) (fun c_26 => ?_)
    · have c_26 := mIs_f c_26
      refine lv_aload_n hx hb dX7_message_38 rfl (lv_at hl 0 rfl) ?_
      refine lv_iconst (v := 2) hx hb dX7_message_39 (by decide) ?_
      refine kc_ui (kr_V (As := [.int 2]) (rest := []) hx hb hml hown hG (c_X7_refuse l D cy md (thr N 0) co su hA 2) cf_X7_refuse wM_X7_95 hw.o rfl hw ⟨rfl, rfl, by decide, by decide⟩ rfl rfl (Nat.le_of_ble_eq_true rfl) ⟨Nat.le_of_ble_eq_true rfl, Nat.le_of_ble_eq_true rfl⟩ dX7_message_40) hS (fun _ h => h) (fun r_40 H1 locs hp1 z1 oq1 hS => ?_)
      obtain ⟨e9, hw⟩ := hp1
      subst e9
      rw [thr_thr] at hw
      exact ke_ui hx hb hr hlk hS dX7_message_43 (Or.inr (Or.inl ⟨by unfold kRng; rw [if_pos c_10, if_neg c_26], hw⟩))
    · have c_26 := mIs_t c_26
      refine lv_aload_n hx hb dX7_message_29 rfl (lv_at hl 0 rfl) ?_
      refine lv_iload_n hx hb dX7_message_30 rfl (lv_at hl 1 rfl) ?_
      refine lv_iload_n hx hb dX7_message_31 rfl (lv_at hl 2 rfl) ?_
      refine kc_i (kr_V (As := [.int (nI i), .int w]) (rest := []) hx hb hml hown hG (c_X7_messageNow l D cy md (thr N 0) co su i hbi w (out_0 c_26).1) cf_X7_messageNow wM_X7_208 hw.o rfl hw ⟨rfl, rfl, by decide, by decide⟩ rfl rfl (Nat.le_of_ble_eq_true rfl) ⟨Nat.le_of_ble_eq_true rfl, Nat.le_of_ble_eq_true rfl⟩ dX7_message_32) ?_
      refine lv_goto (tgt := 43) hx hb dX7_message_35 (by decide) ?_
      exact ke_ui hx hb hr hlk hS dX7_message_43 (Or.inr (Or.inr ⟨by unfold kRng; rw [if_pos c_10, if_pos c_26], i, hi, rfl, rfl, hw⟩))
  · have c_10 : ¬ bI (pOut x 0 (nI ns - 1)) = 0 := by have h := mIs_f c_10; rw [show thr N 0 0 8 = nI ns from hN.1] at h; exact h
    refine lv_aload_n hx hb dX7_message_13 rfl (lv_at hl 0 rfl) ?_
    refine lv_iconst (v := 1) hx hb dX7_message_14 (by decide) ?_
    refine kc_ui (kr_V (As := [.int 1]) (rest := []) hx hb hml hown hG (c_X7_refuse l D cy md (thr N 0) co su hA 1) cf_X7_refuse wM_X7_95 hw.o rfl hw ⟨rfl, rfl, by decide, by decide⟩ rfl rfl (Nat.le_of_ble_eq_true rfl) ⟨Nat.le_of_ble_eq_true rfl, Nat.le_of_ble_eq_true rfl⟩ dX7_message_15) hS (fun _ h => h) (fun r_15 H1 locs hp1 z1 oq1 hS => ?_)
    obtain ⟨e9, hw⟩ := hp1
    subst e9
    rw [thr_thr] at hw
    exact ke_ui hx hb hr hlk hS dX7_message_18 (Or.inl ⟨by unfold kRng; rw [if_neg c_10], hw⟩)
set_option maxHeartbeats 4000000 in
set_option maxRecDepth 100000 in
theorem c_X7_seen (l : Launch) (D : va_G) (cy : Nat → ClassId) (md : Nat → Nat) (N : Nat → Nat → Int32) (co su : Int64) (hA : MI md) (ns nt nr : Nat) (hL : LB ns nt nr) (hN : MN N ns nt nr) (x y w : Int32) : Met l yX7_seen [.code yX7_seen cX7_seen 4 (some .int)] ({ frames := 2, cells := 0, slots := 0, locals := 43 } : Room) (PC D cy [.ref (md 0), .int x, .int y, .int w] (fun H => MW D cy md N co su H)) (UQi (MA md) (mOut D cy md N co su (kTwoR nr ns x y w 7) (fun r H => ∃ i j, i < nr ∧ j < ns ∧ x = nI i ∧ y = nI j ∧ r = mSeenNow (thr N 0 (60 + 8 * i + j)) w ∧ MW D cy md (thr N 0) co su H))) 0 0 (MA md) := by
  refine k_body (by decide +kernel) (Nat.le_of_ble_eq_true rfl) ?_
  intro p e s m below meth c ls hx hb hml hown hr hlk hmn hl hG hI
  have hml9 : c.maxLocals = 4 := hml.trans hl.1
  have hl : lv_has ls 4 [(0, .ref (md 0)), (1, .int x), (2, .int y), (3, .int w)] := hl
  have hS : va_S (MA md) s.heap s.heap [] := va_S.rf
  have hw := hI
  refine lv_aload_n hx hb dX7_seen_0 rfl (lv_at hl 0 rfl) ?_
  refine lv_iconst (v := 0) hx hb dX7_seen_1 (by decide) ?_
  refine k_put (ci := 7) (C := RX7) (T := TX7) (N := 20) (v := .int 0) hx hb hown hG rfl kin_X7 tyX7 tyX7_ok nmX7 hw.o hS MA.o 0 (by decide) wF_X7_41 rfl rfl rfl (Nat.le_of_ble_eq_true rfl) dX7_seen_2 (fun H1 locs hP1 z1 oq1 hS => ?_)
  have hw := hw.setO (r := (upd (N 0) 0 0)) (c' := co) (s' := su) hA hP1 oq1
  have hw : MW D cy md (thr N 0) co su H1 := hw
  refine lv_aload_n hx hb dX7_seen_5 rfl (lv_at hl 0 rfl) ?_
  refine lv_iload_n hx hb dX7_seen_6 rfl (lv_at hl 1 rfl) ?_
  refine kc_i (kr_V (As := [.int x]) (rest := []) hx hb hml hown hG (c_X7_isReceiver l D cy md (thr N 0) co su x) cf_X7_isReceiver wM_X7_115 hw.o rfl hw ⟨rfl, rfl, by decide, by decide⟩ rfl rfl (Nat.le_of_ble_eq_true rfl) ⟨Nat.le_of_ble_eq_true rfl, Nat.le_of_ble_eq_true rfl⟩ dX7_seen_7) ?_
  refine lv_if_eq (tgt := 21) hx hb dX7_seen_10 (by decide) (fun c_10 => ?_) (fun c_10 => ?_)
  · have c_10 : ¬ bI (pOut x 0 (nI nr - 1)) = 0 := by have h := mIs_f c_10; rw [show thr N 0 0 10 = nI nr from hN.2.2] at h; exact h
    refine lv_aload_n hx hb dX7_seen_21 rfl (lv_at hl 0 rfl) ?_
    refine lv_iconst (v := 1) hx hb dX7_seen_22 (by decide) ?_
    refine kc_ui (kr_V (As := [.int 1]) (rest := []) hx hb hml hown hG (c_X7_refuse l D cy md (thr N 0) co su hA 1) cf_X7_refuse wM_X7_95 hw.o rfl hw ⟨rfl, rfl, by decide, by decide⟩ rfl rfl (Nat.le_of_ble_eq_true rfl) ⟨Nat.le_of_ble_eq_true rfl, Nat.le_of_ble_eq_true rfl⟩ dX7_seen_23) hS (fun _ h => h) (fun r_23 H1 locs hp1 z1 oq1 hS => ?_)
    obtain ⟨e9, hw⟩ := hp1
    subst e9
    rw [thr_thr] at hw
    exact ke_ui hx hb hr hlk hS dX7_seen_26 (Or.inl ⟨by unfold kTwoR; rw [if_neg c_10], hw⟩)
  · have c_10 : bI (pOut x 0 (nI nr - 1)) = 0 := by have h := mIs_t c_10; rw [show thr N 0 0 10 = nI nr from hN.2.2] at h; exact h
    obtain ⟨i, hi, ei⟩ := pOut_f (Nat.le_trans hL.2.2 (by decide)) c_10
    subst ei
    have hbi := Nat.lt_of_lt_of_le hi hL.2.2
    refine lv_aload_n hx hb dX7_seen_13 rfl (lv_at hl 0 rfl) ?_
    refine lv_iload_n hx hb dX7_seen_14 rfl (lv_at hl 2 rfl) ?_
    refine kc_i (kr_V (As := [.int y]) (rest := []) hx hb hml hown hG (c_X7_isStar l D cy md (thr N 0) co su y) cf_X7_isStar wM_X7_98 hw.o rfl hw ⟨rfl, rfl, by decide, by decide⟩ rfl rfl (Nat.le_of_ble_eq_true rfl) ⟨Nat.le_of_ble_eq_true rfl, Nat.le_of_ble_eq_true rfl⟩ dX7_seen_15) ?_
    refine lv_if_ne (tgt := 27) hx hb dX7_seen_18 (by decide) (fun c_18 => ?_) (fun c_18 => ?_)
    · have c_18 : bI (pOut y 0 (nI ns - 1)) = 0 := by have h := mIs_t c_18; rw [show thr N 0 0 8 = nI ns from hN.1] at h; exact h
      obtain ⟨j, hj, ej⟩ := pOut_f hL.1 c_18
      subst ej
      have hbj := Nat.lt_of_lt_of_le hj hL.1
      refine lv_iload_n hx hb dX7_seen_27 rfl (lv_at hl 3 rfl) ?_
      refine lv_iconst (v := 0) hx hb dX7_seen_28 (by decide) ?_
      refine lv_bipush (v := 7) hx hb dX7_seen_29 (by decide) ?_
      refine kc_i (kr_S (As := [.int w, .int 0, .int 7]) (rest := []) hx hb hml hown hG (c_X7_is l D cy w 0 7) cf_X7_is wM_X7_86 trivial ⟨rfl, rfl, by decide, by decide⟩ rfl rfl (Nat.le_of_ble_eq_true rfl) ⟨Nat.le_of_ble_eq_true rfl, Nat.le_of_ble_eq_true rfl⟩ dX7_seen_31) ?_
      refine lv_if_eq (tgt := 47) hx hb dX7_seen_34 (by decide) (fun c_34 => ?_) (fun c_34 => ?_)
      · have c_34 := mIs_f c_34
        refine lv_aload_n hx hb dX7_seen_47 rfl (lv_at hl 0 rfl) ?_
        refine lv_iconst (v := 2) hx hb dX7_seen_48 (by decide) ?_
        refine kc_ui (kr_V (As := [.int 2]) (rest := []) hx hb hml hown hG (c_X7_refuse l D cy md (thr N 0) co su hA 2) cf_X7_refuse wM_X7_95 hw.o rfl hw ⟨rfl, rfl, by decide, by decide⟩ rfl rfl (Nat.le_of_ble_eq_true rfl) ⟨Nat.le_of_ble_eq_true rfl, Nat.le_of_ble_eq_true rfl⟩ dX7_seen_49) hS (fun _ h => h) (fun r_49 H1 locs hp1 z1 oq1 hS => ?_)
        obtain ⟨e9, hw⟩ := hp1
        subst e9
        rw [thr_thr] at hw
        exact ke_ui hx hb hr hlk hS dX7_seen_52 (Or.inr (Or.inl ⟨by unfold kTwoR; rw [if_pos c_10, if_pos c_18, if_neg c_34], hw⟩))
      · have c_34 := mIs_t c_34
        refine lv_aload_n hx hb dX7_seen_37 rfl (lv_at hl 0 rfl) ?_
        refine lv_iload_n hx hb dX7_seen_38 rfl (lv_at hl 1 rfl) ?_
        refine lv_iload_n hx hb dX7_seen_39 rfl (lv_at hl 2 rfl) ?_
        refine lv_iload_n hx hb dX7_seen_40 rfl (lv_at hl 3 rfl) ?_
        refine kc_i (kr_V (As := [.int (nI i), .int (nI j), .int w]) (rest := []) hx hb hml hown hG (c_X7_seenNow l D cy md (thr N 0) co su i j hbi hbj w (out_0 c_34).1 (out_0 c_34).2) cf_X7_seenNow wM_X7_211 hw.o rfl hw ⟨rfl, rfl, by decide, by decide⟩ rfl rfl (Nat.le_of_ble_eq_true rfl) ⟨Nat.le_of_ble_eq_true rfl, Nat.le_of_ble_eq_true rfl⟩ dX7_seen_41) ?_
        refine lv_goto (tgt := 52) hx hb dX7_seen_44 (by decide) ?_
        exact ke_ui hx hb hr hlk hS dX7_seen_52 (Or.inr (Or.inr ⟨by unfold kTwoR; rw [if_pos c_10, if_pos c_18, if_pos c_34], i, j, hi, hj, rfl, rfl, rfl, hw⟩))
    · have c_18 : ¬ bI (pOut y 0 (nI ns - 1)) = 0 := by have h := mIs_f c_18; rw [show thr N 0 0 8 = nI ns from hN.1] at h; exact h
      refine lv_aload_n hx hb dX7_seen_21 rfl (lv_at hl 0 rfl) ?_
      refine lv_iconst (v := 1) hx hb dX7_seen_22 (by decide) ?_
      refine kc_ui (kr_V (As := [.int 1]) (rest := []) hx hb hml hown hG (c_X7_refuse l D cy md (thr N 0) co su hA 1) cf_X7_refuse wM_X7_95 hw.o rfl hw ⟨rfl, rfl, by decide, by decide⟩ rfl rfl (Nat.le_of_ble_eq_true rfl) ⟨Nat.le_of_ble_eq_true rfl, Nat.le_of_ble_eq_true rfl⟩ dX7_seen_23) hS (fun _ h => h) (fun r_23 H1 locs hp1 z1 oq1 hS => ?_)
      obtain ⟨e9, hw⟩ := hp1
      subst e9
      rw [thr_thr] at hw
      exact ke_ui hx hb hr hlk hS dX7_seen_26 (Or.inl ⟨by unfold kTwoR; rw [if_pos c_10, if_neg c_18], hw⟩)
set_option maxHeartbeats 4000000 in
set_option maxRecDepth 100000 in
theorem c_X7_wouldSee (l : Launch) (D : va_G) (cy : Nat → ClassId) (md : Nat → Nat) (N : Nat → Nat → Int32) (co su : Int64) (hA : MI md) (ns nt nr : Nat) (hL : LB ns nt nr) (hN : MN N ns nt nr) (x w : Int32) : Met l yX7_wouldSee [.code yX7_wouldSee cX7_wouldSee 3 (some .int)] ({ frames := 5, cells := 0, slots := 0, locals := 115 } : Room) (PC D cy [.ref (md 0), .int x, .int w] (fun H => MW D cy md N co su H)) (UQi (MA md) (mOut D cy md N co su (kRng nr x w 0 48) (fun r H => ∃ i, i < nr ∧ x = nI i ∧ r = mSet (thr N 0 (40 + i)) (thr N 0) w ns ∧ MW D cy md (thr N 0) co su H))) 0 0 (MA md) := by
  refine k_body (by decide +kernel) (Nat.le_of_ble_eq_true rfl) ?_
  intro p e s m below meth c ls hx hb hml hown hr hlk hmn hl hG hI
  have hml9 : c.maxLocals = 3 := hml.trans hl.1
  have hl : lv_has ls 3 [(0, .ref (md 0)), (1, .int x), (2, .int w)] := hl
  have hS : va_S (MA md) s.heap s.heap [] := va_S.rf
  have hw := hI
  refine lv_aload_n hx hb dX7_wouldSee_0 rfl (lv_at hl 0 rfl) ?_
  refine lv_iconst (v := 0) hx hb dX7_wouldSee_1 (by decide) ?_
  refine k_put (ci := 7) (C := RX7) (T := TX7) (N := 20) (v := .int 0) hx hb hown hG rfl kin_X7 tyX7 tyX7_ok nmX7 hw.o hS MA.o 0 (by decide) wF_X7_41 rfl rfl rfl (Nat.le_of_ble_eq_true rfl) dX7_wouldSee_2 (fun H1 locs hP1 z1 oq1 hS => ?_)
  have hw := hw.setO (r := (upd (N 0) 0 0)) (c' := co) (s' := su) hA hP1 oq1
  have hw : MW D cy md (thr N 0) co su H1 := hw
  refine lv_aload_n hx hb dX7_wouldSee_5 rfl (lv_at hl 0 rfl) ?_
  refine lv_iload_n hx hb dX7_wouldSee_6 rfl (lv_at hl 1 rfl) ?_
  refine kc_i (kr_V (As := [.int x]) (rest := []) hx hb hml hown hG (c_X7_isReceiver l D cy md (thr N 0) co su x) cf_X7_isReceiver wM_X7_115 hw.o rfl hw ⟨rfl, rfl, by decide, by decide⟩ rfl rfl (Nat.le_of_ble_eq_true rfl) ⟨Nat.le_of_ble_eq_true rfl, Nat.le_of_ble_eq_true rfl⟩ dX7_wouldSee_7) ?_
  refine lv_if_ne (tgt := 19) hx hb dX7_wouldSee_10 (by decide) (fun c_10 => ?_) (fun c_10 => ?_)
  · have c_10 : bI (pOut x 0 (nI nr - 1)) = 0 := by have h := mIs_t c_10; rw [show thr N 0 0 10 = nI nr from hN.2.2] at h; exact h
    obtain ⟨i, hi, ei⟩ := pOut_f (Nat.le_trans hL.2.2 (by decide)) c_10
    subst ei
    have hbi := Nat.lt_of_lt_of_le hi hL.2.2
    refine lv_iload_n hx hb dX7_wouldSee_19 rfl (lv_at hl 2 rfl) ?_
    refine lv_iconst (v := 0) hx hb dX7_wouldSee_20 (by decide) ?_
    refine lv_bipush (v := 48) hx hb dX7_wouldSee_21 (by decide) ?_
    refine kc_i (kr_S (As := [.int w, .int 0, .int 48]) (rest := []) hx hb hml hown hG (c_X7_is l D cy w 0 48) cf_X7_is wM_X7_86 trivial ⟨rfl, rfl, by decide, by decide⟩ rfl rfl (Nat.le_of_ble_eq_true rfl) ⟨Nat.le_of_ble_eq_true rfl, Nat.le_of_ble_eq_true rfl⟩ dX7_wouldSee_23) ?_
    refine lv_if_eq (tgt := 38) hx hb dX7_wouldSee_26 (by decide) (fun c_26 => ?_) (fun c_26 => ?_)
    · have c_26 := mIs_f c_26
      refine lv_aload_n hx hb dX7_wouldSee_38 rfl (lv_at hl 0 rfl) ?_
      refine lv_iconst (v := 2) hx hb dX7_wouldSee_39 (by decide) ?_
      refine kc_ui (kr_V (As := [.int 2]) (rest := []) hx hb hml hown hG (c_X7_refuse l D cy md (thr N 0) co su hA 2) cf_X7_refuse wM_X7_95 hw.o rfl hw ⟨rfl, rfl, by decide, by decide⟩ rfl rfl (Nat.le_of_ble_eq_true rfl) ⟨Nat.le_of_ble_eq_true rfl, Nat.le_of_ble_eq_true rfl⟩ dX7_wouldSee_40) hS (fun _ h => h) (fun r_40 H1 locs hp1 z1 oq1 hS => ?_)
      obtain ⟨e9, hw⟩ := hp1
      subst e9
      rw [thr_thr] at hw
      exact ke_ui hx hb hr hlk hS dX7_wouldSee_43 (Or.inr (Or.inl ⟨by unfold kRng; rw [if_pos c_10, if_neg c_26], hw⟩))
    · have c_26 := mIs_t c_26
      refine lv_aload_n hx hb dX7_wouldSee_29 rfl (lv_at hl 0 rfl) ?_
      refine lv_iload_n hx hb dX7_wouldSee_30 rfl (lv_at hl 1 rfl) ?_
      refine lv_iload_n hx hb dX7_wouldSee_31 rfl (lv_at hl 2 rfl) ?_
      refine kc_i (kr_V (As := [.int (nI i), .int w]) (rest := []) hx hb hml hown hG (c_X7_setSeen l D cy md (thr N 0) co su ns hL.1 hN.1 i hbi w) cf_X7_setSeen wM_X7_122 hw.o rfl hw ⟨rfl, rfl, by decide, by decide⟩ rfl rfl (Nat.le_of_ble_eq_true rfl) ⟨Nat.le_of_ble_eq_true rfl, Nat.le_of_ble_eq_true rfl⟩ dX7_wouldSee_32) ?_
      refine lv_goto (tgt := 43) hx hb dX7_wouldSee_35 (by decide) ?_
      exact ke_ui hx hb hr hlk hS dX7_wouldSee_43 (Or.inr (Or.inr ⟨by unfold kRng; rw [if_pos c_10, if_pos c_26], i, hi, rfl, rfl, hw⟩))
  · have c_10 : ¬ bI (pOut x 0 (nI nr - 1)) = 0 := by have h := mIs_f c_10; rw [show thr N 0 0 10 = nI nr from hN.2.2] at h; exact h
    refine lv_aload_n hx hb dX7_wouldSee_13 rfl (lv_at hl 0 rfl) ?_
    refine lv_iconst (v := 1) hx hb dX7_wouldSee_14 (by decide) ?_
    refine kc_ui (kr_V (As := [.int 1]) (rest := []) hx hb hml hown hG (c_X7_refuse l D cy md (thr N 0) co su hA 1) cf_X7_refuse wM_X7_95 hw.o rfl hw ⟨rfl, rfl, by decide, by decide⟩ rfl rfl (Nat.le_of_ble_eq_true rfl) ⟨Nat.le_of_ble_eq_true rfl, Nat.le_of_ble_eq_true rfl⟩ dX7_wouldSee_15) hS (fun _ h => h) (fun r_15 H1 locs hp1 z1 oq1 hS => ?_)
    obtain ⟨e9, hw⟩ := hp1
    subst e9
    rw [thr_thr] at hw
    exact ke_ui hx hb hr hlk hS dX7_wouldSee_18 (Or.inl ⟨by unfold kRng; rw [if_neg c_10], hw⟩)
set_option maxHeartbeats 4000000 in
set_option maxRecDepth 100000 in
theorem c_X7_heardIn (l : Launch) (D : va_G) (cy : Nat → ClassId) (md : Nat → Nat) (N : Nat → Nat → Int32) (co su : Int64) (hA : MI md) (ns nt nr : Nat) (hL : LB ns nt nr) (hN : MN N ns nt nr) (x y : Int32) : Met l yX7_heardIn [.code yX7_heardIn cX7_heardIn 3 (some .int)] ({ frames := 5, cells := 0, slots := 0, locals := 112 } : Room) (PC D cy [.ref (md 0), .int x, .int y] (fun H => MW D cy md N co su H)) (UQi (MA md) (mOut D cy md N co su (kTwo ns nt x y) (fun r H => ∃ i j, i < ns ∧ j < nt ∧ x = nI i ∧ y = nI j ∧ r = mFs (thr N 0 (10 + i)) (thr N 0 (30 + j)) 49 0 ∧ MW D cy md (thr N 0) co su H))) 0 0 (MA md) := by
  refine k_body (by decide +kernel) (Nat.le_of_ble_eq_true rfl) ?_
  intro p e s m below meth c ls hx hb hml hown hr hlk hmn hl hG hI
  have hml9 : c.maxLocals = 3 := hml.trans hl.1
  have hl : lv_has ls 3 [(0, .ref (md 0)), (1, .int x), (2, .int y)] := hl
  have hS : va_S (MA md) s.heap s.heap [] := va_S.rf
  have hw := hI
  refine lv_aload_n hx hb dX7_heardIn_0 rfl (lv_at hl 0 rfl) ?_
  refine lv_iconst (v := 0) hx hb dX7_heardIn_1 (by decide) ?_
  refine k_put (ci := 7) (C := RX7) (T := TX7) (N := 20) (v := .int 0) hx hb hown hG rfl kin_X7 tyX7 tyX7_ok nmX7 hw.o hS MA.o 0 (by decide) wF_X7_41 rfl rfl rfl (Nat.le_of_ble_eq_true rfl) dX7_heardIn_2 (fun H1 locs hP1 z1 oq1 hS => ?_)
  have hw := hw.setO (r := (upd (N 0) 0 0)) (c' := co) (s' := su) hA hP1 oq1
  have hw : MW D cy md (thr N 0) co su H1 := hw
  refine lv_aload_n hx hb dX7_heardIn_5 rfl (lv_at hl 0 rfl) ?_
  refine lv_iload_n hx hb dX7_heardIn_6 rfl (lv_at hl 1 rfl) ?_
  refine kc_i (kr_V (As := [.int x]) (rest := []) hx hb hml hown hG (c_X7_isStar l D cy md (thr N 0) co su x) cf_X7_isStar wM_X7_98 hw.o rfl hw ⟨rfl, rfl, by decide, by decide⟩ rfl rfl (Nat.le_of_ble_eq_true rfl) ⟨Nat.le_of_ble_eq_true rfl, Nat.le_of_ble_eq_true rfl⟩ dX7_heardIn_7) ?_
  refine lv_if_eq (tgt := 30) hx hb dX7_heardIn_10 (by decide) (fun c_10 => ?_) (fun c_10 => ?_)
  · have c_10 : ¬ bI (pOut x 0 (nI ns - 1)) = 0 := by have h := mIs_f c_10; rw [show thr N 0 0 8 = nI ns from hN.1] at h; exact h
    refine lv_aload_n hx hb dX7_heardIn_30 rfl (lv_at hl 0 rfl) ?_
    refine lv_iconst (v := 1) hx hb dX7_heardIn_31 (by decide) ?_
    refine kc_ui (kr_V (As := [.int 1]) (rest := []) hx hb hml hown hG (c_X7_refuse l D cy md (thr N 0) co su hA 1) cf_X7_refuse wM_X7_95 hw.o rfl hw ⟨rfl, rfl, by decide, by decide⟩ rfl rfl (Nat.le_of_ble_eq_true rfl) ⟨Nat.le_of_ble_eq_true rfl, Nat.le_of_ble_eq_true rfl⟩ dX7_heardIn_32) hS (fun _ h => h) (fun r_32 H1 locs hp1 z1 oq1 hS => ?_)
    obtain ⟨e9, hw⟩ := hp1
    subst e9
    rw [thr_thr] at hw
    exact ke_ui hx hb hr hlk hS dX7_heardIn_35 (Or.inl ⟨by unfold kTwo; rw [if_neg c_10], hw⟩)
  · have c_10 : bI (pOut x 0 (nI ns - 1)) = 0 := by have h := mIs_t c_10; rw [show thr N 0 0 8 = nI ns from hN.1] at h; exact h
    obtain ⟨i, hi, ei⟩ := pOut_f hL.1 c_10
    subst ei
    have hbi := Nat.lt_of_lt_of_le hi hL.1
    refine lv_aload_n hx hb dX7_heardIn_13 rfl (lv_at hl 0 rfl) ?_
    refine lv_iload_n hx hb dX7_heardIn_14 rfl (lv_at hl 2 rfl) ?_
    refine kc_i (kr_V (As := [.int y]) (rest := []) hx hb hml hown hG (c_X7_isStation l D cy md (thr N 0) co su y) cf_X7_isStation wM_X7_105 hw.o rfl hw ⟨rfl, rfl, by decide, by decide⟩ rfl rfl (Nat.le_of_ble_eq_true rfl) ⟨Nat.le_of_ble_eq_true rfl, Nat.le_of_ble_eq_true rfl⟩ dX7_heardIn_15) ?_
    refine lv_if_eq (tgt := 30) hx hb dX7_heardIn_18 (by decide) (fun c_18 => ?_) (fun c_18 => ?_)
    · have c_18 : ¬ bI (pOut y 0 (nI nt - 1)) = 0 := by have h := mIs_f c_18; rw [show thr N 0 0 9 = nI nt from hN.2.1] at h; exact h
      refine lv_aload_n hx hb dX7_heardIn_30 rfl (lv_at hl 0 rfl) ?_
      refine lv_iconst (v := 1) hx hb dX7_heardIn_31 (by decide) ?_
      refine kc_ui (kr_V (As := [.int 1]) (rest := []) hx hb hml hown hG (c_X7_refuse l D cy md (thr N 0) co su hA 1) cf_X7_refuse wM_X7_95 hw.o rfl hw ⟨rfl, rfl, by decide, by decide⟩ rfl rfl (Nat.le_of_ble_eq_true rfl) ⟨Nat.le_of_ble_eq_true rfl, Nat.le_of_ble_eq_true rfl⟩ dX7_heardIn_32) hS (fun _ h => h) (fun r_32 H1 locs hp1 z1 oq1 hS => ?_)
      obtain ⟨e9, hw⟩ := hp1
      subst e9
      rw [thr_thr] at hw
      exact ke_ui hx hb hr hlk hS dX7_heardIn_35 (Or.inl ⟨by unfold kTwo; rw [if_pos c_10, if_neg c_18], hw⟩)
    · have c_18 : bI (pOut y 0 (nI nt - 1)) = 0 := by have h := mIs_t c_18; rw [show thr N 0 0 9 = nI nt from hN.2.1] at h; exact h
      obtain ⟨j, hj, ej⟩ := pOut_f (Nat.le_trans hL.2.1 (by decide)) c_18
      subst ej
      have hbj := Nat.lt_of_lt_of_le hj hL.2.1
      refine lv_aload_n hx hb dX7_heardIn_21 rfl (lv_at hl 0 rfl) ?_
      refine lv_iload_n hx hb dX7_heardIn_22 rfl (lv_at hl 1 rfl) ?_
      refine lv_iload_n hx hb dX7_heardIn_23 rfl (lv_at hl 2 rfl) ?_
      refine kc_i (kr_V (As := [.int (nI i), .int (nI j)]) (rest := []) hx hb hml hown hG (c_X7_heardNow l D cy md (thr N 0) co su i j hbi hbj) cf_X7_heardNow wM_X7_220 hw.o rfl hw ⟨rfl, rfl, by decide, by decide⟩ rfl rfl (Nat.le_of_ble_eq_true rfl) ⟨Nat.le_of_ble_eq_true rfl, Nat.le_of_ble_eq_true rfl⟩ dX7_heardIn_24) ?_
      refine lv_goto (tgt := 35) hx hb dX7_heardIn_27 (by decide) ?_
      exact ke_ui hx hb hr hlk hS dX7_heardIn_35 (Or.inr (Or.inr ⟨by unfold kTwo; rw [if_pos c_10, if_pos c_18], i, j, hi, hj, rfl, rfl, rfl, hw⟩))
set_option maxHeartbeats 4000000 in
set_option maxRecDepth 100000 in
theorem c_X7_pass (l : Launch) (D : va_G) (cy : Nat → ClassId) (md : Nat → Nat) (N : Nat → Nat → Int32) (co su : Int64) (hA : MI md) (ns nt nr : Nat) (hL : LB ns nt nr) (hN : MN N ns nt nr) (n : Int32) : Met l yX7_pass [.code yX7_pass cX7_pass 5 (some .int)] ({ frames := 2, cells := 0, slots := 0, locals := 44 } : Room) (PC D cy [.ref (md 0), .int n] (fun H => MW D cy md N co su H)) (UQi (MA md) (mOut D cy md N co su (kIn n 1 48) (fun r H => ∃ k, k ≤ 48 ∧ n = nI k ∧ r = mPassN (thr N 0) ns k 0 1 ∧ MW D cy md (mPassN (thr N 0) ns k) co su H))) 0 0 (MA md) := by
  refine k_body (by decide +kernel) (Nat.le_of_ble_eq_true rfl) ?_
  intro p e s m below meth c ls hx hb hml hown hr hlk hmn hl hG hI
  have hml9 : c.maxLocals = 5 := hml.trans hl.1
  have hl : lv_has ls 5 [(0, .ref (md 0)), (1, .int n)] := hl
  have hS : va_S (MA md) s.heap s.heap [] := va_S.rf
  have hw := hI
  refine lv_aload_n hx hb dX7_pass_0 rfl (lv_at hl 0 rfl) ?_
  refine lv_iconst (v := 0) hx hb dX7_pass_1 (by decide) ?_
  refine k_put (ci := 7) (C := RX7) (T := TX7) (N := 20) (v := .int 0) hx hb hown hG rfl kin_X7 tyX7 tyX7_ok nmX7 hw.o hS MA.o 0 (by decide) wF_X7_41 rfl rfl rfl (Nat.le_of_ble_eq_true rfl) dX7_pass_2 (fun H1 locs hP1 z1 oq1 hS => ?_)
  have hw := hw.setO (r := (upd (N 0) 0 0)) (c' := co) (s' := su) hA hP1 oq1
  have hw : MW D cy md (thr N 0) co su H1 := hw
  refine lv_iload_n hx hb dX7_pass_5 rfl (lv_at hl 1 rfl) ?_
  refine lv_iconst (v := 1) hx hb dX7_pass_6 (by decide) ?_
  refine lv_bipush (v := 48) hx hb dX7_pass_7 (by decide) ?_
  refine kc_i (kr_S (As := [.int n, .int 1, .int 48]) (rest := []) hx hb hml hown hG (c_X7_is l D cy n 1 48) cf_X7_is wM_X7_86 trivial ⟨rfl, rfl, by decide, by decide⟩ rfl rfl (Nat.le_of_ble_eq_true rfl) ⟨Nat.le_of_ble_eq_true rfl, Nat.le_of_ble_eq_true rfl⟩ dX7_pass_9) ?_
  refine lv_if_ne (tgt := 21) hx hb dX7_pass_12 (by decide) (fun c_12 => ?_) (fun c_12 => ?_)
  · have c_12 := mIs_t c_12
    obtain ⟨k, hk8, ek⟩ := pIn48 c_12
    refine lv_iconst (v := 0) hx hb dX7_pass_21 (by decide) ?_
    refine lv_istore_n (lv' := [(2, .int 0), (0, .ref (md 0)), (1, .int n)]) hx hb dX7_pass_22 rfl hl (by decide) rfl (fun ls hl => ?_)
    have hml : c.maxLocals = ls.size := hml9.trans hl.1.symm
    have lp23_1 : ∀ (n9 : Nat) (u : Nat) (H : Heap) (locs : List Loc), k + 1 - u ≤ n9 → u ≤ k → MW D cy md (mPassN (thr N 0) ns u) co su H → va_S (MA md) s.heap H locs →  ∀ ls : Array Slot, lv_has ls 5 [(2, .int (nI u)), (0, .ref (md 0)), (1, .int n)] → W p l e ({ frames := 2, cells := 0, slots := 0, locals := 44 } : Room) s m ([.ref (md 0), .int n] : List Value).toArray below meth c H locs 0 0 (MQ below (UQi (MA md) (mOut D cy md N co su (kIn n 1 48) (fun r H => ∃ k, k ≤ 48 ∧ n = nI k ∧ r = mPassN (thr N 0) ns k 0 1 ∧ MW D cy md (mPassN (thr N 0) ns k) co su H))) ([.ref (md 0), .int n] : List Value).toArray s 0 0 (MA md)) (F0 m 23 ls []) := by
      intro n9
      induction n9 with
      | zero =>
        intro u H locs h9
        intro hu; exact absurd h9 (by omega)
      | succ n9 ih9 =>
        intro u H locs hn9 hu hw hS ls hl
        have hml : c.maxLocals = ls.size := hml9.trans hl.1.symm
        have ihu9 := ih9
        have hL1 := hL.1
        refine lv_iload_n hx hb dX7_pass_23 rfl (lv_at hl 0 rfl) ?_
        refine lv_iload_n hx hb dX7_pass_24 rfl (lv_at hl 2 rfl) ?_
        refine lv_icmp_ge (tgt := 105) hx hb dX7_pass_25 (by decide) (fun c_25 => ?_) (fun c_25 => ?_)
        · have euk : u = k := Nat.le_antisymm hu ((nI_leI (by omega) (by omega)).mp (by rw [← ek]; exact c_25))
          refine lv_aload_n hx hb dX7_pass_105 rfl (lv_at hl 1 rfl) ?_
          refine k_get (ci := 7) (C := RX7) (T := TX7) (N := 20) (v := .int ((mPassN (thr N 0) ns u 0) 1)) hx hb hown hG rfl kin_X7 hw.o 1 (by decide) wF_X7_64 rfl dX7_pass_106 ?_
          exact ke_ui hx hb hr hlk hS dX7_pass_109 (Or.inr (Or.inr ⟨by unfold kIn; rw [if_pos c_12], k, hk8, ek, by rw [euk], by rw [← euk]; exact hw⟩))
        · have hltu : u < k := by
            rcases Nat.lt_or_ge u k with q | q
            · exact q
            · exact absurd (by rw [ek]; exact nI_le q (by omega)) c_25
          refine lv_aload_n hx hb dX7_pass_28 rfl (lv_at hl 1 rfl) ?_
          refine lv_dup hx hb dX7_pass_29 rfl ?_
          refine k_get (ci := 7) (C := RX7) (T := TX7) (N := 20) (v := .int ((mPassN (thr N 0) ns u 0) 1)) hx hb hown hG rfl kin_X7 hw.o 1 (by decide) wF_X7_64 rfl dX7_pass_30 ?_
          refine lv_iconst (v := 1) hx hb dX7_pass_33 (by decide) ?_
          refine lv_iadd hx hb dX7_pass_34 ?_
          refine k_put (ci := 7) (C := RX7) (T := TX7) (N := 20) (v := .int (((mPassN (thr N 0) ns u 0) 1) + 1)) hx hb hown hG rfl kin_X7 tyX7 tyX7_ok nmX7 hw.o hS MA.o 1 (by decide) wF_X7_64 rfl rfl rfl (Nat.le_of_ble_eq_true rfl) dX7_pass_35 (fun H1 locs hP1 z1 oq1 hS => ?_)
          have hw := hw.setO (r := (upd (mPassN (thr N 0) ns u 0) 1 (((mPassN (thr N 0) ns u 0) 1) + 1))) (c' := co) (s' := su) hA hP1 oq1
          refine lv_iconst (v := 0) hx hb dX7_pass_38 (by decide) ?_
          refine lv_istore_n (lv' := [(3, .int 0), (2, .int (nI u)), (0, .ref (md 0)), (1, .int n)]) hx hb dX7_pass_39 rfl hl (by decide) rfl (fun ls hl => ?_)
          have hml : c.maxLocals = ls.size := hml9.trans hl.1.symm
          have lp40_2 : ∀ (n9 : Nat) (j : Nat) (H : Heap) (locs : List Loc), ns + 1 - j ≤ n9 → j ≤ ns → MW D cy md (mStars (mEp (mPassN (thr N 0) ns u)) j) co su H → va_S (MA md) s.heap H locs →  ∀ ls : Array Slot, lv_has ls 5 [(3, .int (nI j)), (2, .int (nI u)), (0, .ref (md 0)), (1, .int n)] → W p l e ({ frames := 2, cells := 0, slots := 0, locals := 44 } : Room) s m ([.ref (md 0), .int n] : List Value).toArray below meth c H locs 0 0 (MQ below (UQi (MA md) (mOut D cy md N co su (kIn n 1 48) (fun r H => ∃ k, k ≤ 48 ∧ n = nI k ∧ r = mPassN (thr N 0) ns k 0 1 ∧ MW D cy md (mPassN (thr N 0) ns k) co su H))) ([.ref (md 0), .int n] : List Value).toArray s 0 0 (MA md)) (F0 m 40 ls []) := by
            intro n9
            induction n9 with
            | zero =>
              intro j H locs h9
              intro hj; exact absurd h9 (by omega)
            | succ n9 ih9 =>
              intro j H locs hn9 hj hw hS ls hl
              have hml : c.maxLocals = ls.size := hml9.trans hl.1.symm
              have ensj : mStars (mEp (mPassN (thr N 0) ns u)) j 0 8 = nI ns := by rw [mStars_lo _ _ (by decide)]; exact (mPassN_8 (thr N 0) ns u).trans hN.1
              refine lv_iload_n hx hb dX7_pass_40 rfl (lv_at hl 0 rfl) ?_
              refine lv_aload_n hx hb dX7_pass_41 rfl (lv_at hl 2 rfl) ?_
              refine k_get (ci := 7) (C := RX7) (T := TX7) (N := 20) (v := .int ((mStars (mEp (mPassN (thr N 0) ns u)) j 0) 8)) hx hb hown hG rfl kin_X7 hw.o 8 (by decide) wF_X7_79 rfl dX7_pass_42 ?_
              refine lv_icmp_ge (tgt := 99) hx hb dX7_pass_45 (by decide) (fun c_45 => ?_) (fun c_45 => ?_)
              · rw [ensj] at c_45
                have enj : j = ns := Nat.le_antisymm hj ((nI_leI (by omega) (by omega)).mp c_45)
                refine lv_iinc (v := (nI (u + 1))) (lv' := [(2, .int (nI (u + 1))), (3, .int (nI j)), (0, .ref (md 0)), (1, .int n)]) hx hb dX7_pass_99 hl (k := 1) rfl ((nI_succ u).symm) (by decide) rfl (fun ls hl => ?_)
                have hml : c.maxLocals = ls.size := hml9.trans hl.1.symm
                refine lv_goto (tgt := 23) hx hb dX7_pass_102 (by decide) ?_
                exact ihu9 (u + 1) _ _ (by omega) hltu (by rw [mPassN_s]; subst enj; exact hw) hS ls (lv_sub hl [0, 2, 3] rfl)
              · rw [ensj] at c_45
                have hltj : j < ns := by
                  rcases Nat.lt_or_ge j ns with q | q
                  · exact q
                  · exact absurd (nI_le q (by omega)) c_45
                have hlt8j : j < 8 := Nat.lt_of_lt_of_le hltj hL.1
                refine lv_aload_n hx hb dX7_pass_48 rfl (lv_at hl 2 rfl) ?_
                refine k_get (ci := 7) (C := RX7) (T := TX7) (N := 20) (v := .ref (md 1)) hx hb hown hG rfl kin_X7 hw.o 3 (by decide) wF_X7_11 rfl dX7_pass_49 ?_
                refine lv_iload_n hx hb dX7_pass_52 rfl (lv_at hl 0 rfl) ?_
                refine k_ald2 (v := (md (10 + j))) hx hb hG 5 rfl hw.a1 (vp_in_nI (n := j) hlt8j (by decide)) (mo_st hlt8j) dX7_pass_53 ?_
                refine lv_astore (lv' := [(4, .ref (md (10 + j))), (3, .int (nI j)), (2, .int (nI u)), (0, .ref (md 0)), (1, .int n)]) hx hb dX7_pass_54 hl (by decide) rfl (fun ls hl => ?_)
                have hml : c.maxLocals = ls.size := hml9.trans hl.1.symm
                refine lv_aload hx hb dX7_pass_56 (lv_at hl 0 rfl) ?_
                refine lv_iconst (v := 1) hx hb dX7_pass_58 (by decide) ?_
                refine lv_aload hx hb dX7_pass_59 (lv_at hl 0 rfl) ?_
                refine lv_iconst (v := 1) hx hb dX7_pass_61 (by decide) ?_
                refine k_iald (v := ((mStars (mEp (mPassN (thr N 0) ns u)) j (10 + j)) 1)) hx hb hG (hw.st hlt8j) (show vp_in (nI 1) 6 from vp_in_nI (by decide) (by decide)) (congrArg (mStars (mEp (mPassN (thr N 0) ns u)) j (10 + j)) (clI 1 (by decide))) dX7_pass_62 ?_
                refine lv_aload hx hb dX7_pass_63 (lv_at hl 0 rfl) ?_
                refine lv_iconst (v := 2) hx hb dX7_pass_65 (by decide) ?_
                refine k_iald (v := ((mStars (mEp (mPassN (thr N 0) ns u)) j (10 + j)) 2)) hx hb hG (hw.st hlt8j) (show vp_in (nI 2) 6 from vp_in_nI (by decide) (by decide)) (congrArg (mStars (mEp (mPassN (thr N 0) ns u)) j (10 + j)) (clI 2 (by decide))) dX7_pass_66 ?_
                refine lv_iadd hx hb dX7_pass_67 ?_
                refine lv_bipush (v := 48) hx hb dX7_pass_68 (by decide) ?_
                refine kc_i (kr_S (As := [.int (((mStars (mEp (mPassN (thr N 0) ns u)) j (10 + j)) 1) + ((mStars (mEp (mPassN (thr N 0) ns u)) j (10 + j)) 2)), .int 48]) (rest := [.int 1, .ref (md (10 + j))]) hx hb hml hown hG (c_J9_floorMod_7cf53 l D cy (((mStars (mEp (mPassN (thr N 0) ns u)) j (10 + j)) 1) + ((mStars (mEp (mPassN (thr N 0) ns u)) j (10 + j)) 2)) 48 (by decide)) cf_J9_floorMod_7cf53 wM_X7_54 trivial ⟨rfl, rfl, by decide, by decide⟩ rfl rfl (Nat.le_of_ble_eq_true rfl) ⟨Nat.le_of_ble_eq_true rfl, Nat.le_of_ble_eq_true rfl⟩ dX7_pass_70) ?_
                refine k_iast hx hb hG (hw.st hlt8j) hS (MA.i (mk_st hlt8j)) (show vp_in (nI 1) 6 from vp_in_nI (by decide) (by decide)) dX7_pass_73 (fun H1 locs hP1 z1 oq1 hS => ?_)
                rw [show Int32.toNatClampNeg 1 = 1 from clI 1 (by decide)] at hP1
                have hw := hw.setI hA (mk_st hlt8j) (ml_st hlt8j) hP1 oq1
                refine lv_aload hx hb dX7_pass_74 (lv_at hl 0 rfl) ?_
                refine lv_iconst (v := 3) hx hb dX7_pass_76 (by decide) ?_
                refine lv_aload hx hb dX7_pass_77 (lv_at hl 0 rfl) ?_
                refine lv_iconst (v := 3) hx hb dX7_pass_79 (by decide) ?_
                refine k_iald (v := ((upd (mStars (mEp (mPassN (thr N 0) ns u)) j (10 + j)) 1 (pFMod (((mStars (mEp (mPassN (thr N 0) ns u)) j (10 + j)) 1) + ((mStars (mEp (mPassN (thr N 0) ns u)) j (10 + j)) 2)) 48)) 3)) hx hb hG (show va_P D vwCl [(md (10 + j), .inl (cy 0, 6, .inl (upd (mStars (mEp (mPassN (thr N 0) ns u)) j (10 + j)) 1 (pFMod (((mStars (mEp (mPassN (thr N 0) ns u)) j (10 + j)) 1) + ((mStars (mEp (mPassN (thr N 0) ns u)) j (10 + j)) 2)) 48))))] _ from by have h := hw.st hlt8j; rw [mset_s] at h; exact h) (show vp_in (nI 3) 6 from vp_in_nI (by decide) (by decide)) (congrArg (upd (mStars (mEp (mPassN (thr N 0) ns u)) j (10 + j)) 1 (pFMod (((mStars (mEp (mPassN (thr N 0) ns u)) j (10 + j)) 1) + ((mStars (mEp (mPassN (thr N 0) ns u)) j (10 + j)) 2)) 48)) (clI 3 (by decide))) dX7_pass_80 ?_
                refine lv_aload hx hb dX7_pass_81 (lv_at hl 0 rfl) ?_
                refine lv_iconst (v := 4) hx hb dX7_pass_83 (by decide) ?_
                refine k_iald (v := ((upd (mStars (mEp (mPassN (thr N 0) ns u)) j (10 + j)) 1 (pFMod (((mStars (mEp (mPassN (thr N 0) ns u)) j (10 + j)) 1) + ((mStars (mEp (mPassN (thr N 0) ns u)) j (10 + j)) 2)) 48)) 4)) hx hb hG (show va_P D vwCl [(md (10 + j), .inl (cy 0, 6, .inl (upd (mStars (mEp (mPassN (thr N 0) ns u)) j (10 + j)) 1 (pFMod (((mStars (mEp (mPassN (thr N 0) ns u)) j (10 + j)) 1) + ((mStars (mEp (mPassN (thr N 0) ns u)) j (10 + j)) 2)) 48))))] _ from by have h := hw.st hlt8j; rw [mset_s] at h; exact h) (show vp_in (nI 4) 6 from vp_in_nI (by decide) (by decide)) (congrArg (upd (mStars (mEp (mPassN (thr N 0) ns u)) j (10 + j)) 1 (pFMod (((mStars (mEp (mPassN (thr N 0) ns u)) j (10 + j)) 1) + ((mStars (mEp (mPassN (thr N 0) ns u)) j (10 + j)) 2)) 48)) (clI 4 (by decide))) dX7_pass_84 ?_
                refine lv_iadd hx hb dX7_pass_85 ?_
                refine lv_sipush (v := 999) hx hb dX7_pass_86 (by decide) ?_
                refine kc_i (kr_S (As := [.int (((upd (mStars (mEp (mPassN (thr N 0) ns u)) j (10 + j)) 1 (pFMod (((mStars (mEp (mPassN (thr N 0) ns u)) j (10 + j)) 1) + ((mStars (mEp (mPassN (thr N 0) ns u)) j (10 + j)) 2)) 48)) 3) + ((upd (mStars (mEp (mPassN (thr N 0) ns u)) j (10 + j)) 1 (pFMod (((mStars (mEp (mPassN (thr N 0) ns u)) j (10 + j)) 1) + ((mStars (mEp (mPassN (thr N 0) ns u)) j (10 + j)) 2)) 48)) 4)), .int 999]) (rest := [.int 3, .ref (md (10 + j))]) hx hb hml hown hG (c_X7_held l D cy (((upd (mStars (mEp (mPassN (thr N 0) ns u)) j (10 + j)) 1 (pFMod (((mStars (mEp (mPassN (thr N 0) ns u)) j (10 + j)) 1) + ((mStars (mEp (mPassN (thr N 0) ns u)) j (10 + j)) 2)) 48)) 3) + ((upd (mStars (mEp (mPassN (thr N 0) ns u)) j (10 + j)) 1 (pFMod (((mStars (mEp (mPassN (thr N 0) ns u)) j (10 + j)) 1) + ((mStars (mEp (mPassN (thr N 0) ns u)) j (10 + j)) 2)) 48)) 4)) 999) cf_X7_held wM_X7_102 trivial ⟨rfl, rfl, by decide, by decide⟩ rfl rfl (Nat.le_of_ble_eq_true rfl) ⟨Nat.le_of_ble_eq_true rfl, Nat.le_of_ble_eq_true rfl⟩ dX7_pass_89) ?_
                refine k_iast hx hb hG (show va_P D vwCl [(md (10 + j), .inl (cy 0, 6, .inl (upd (mStars (mEp (mPassN (thr N 0) ns u)) j (10 + j)) 1 (pFMod (((mStars (mEp (mPassN (thr N 0) ns u)) j (10 + j)) 1) + ((mStars (mEp (mPassN (thr N 0) ns u)) j (10 + j)) 2)) 48))))] _ from by have h := hw.st hlt8j; rw [mset_s] at h; exact h) hS (MA.i (mk_st hlt8j)) (show vp_in (nI 3) 6 from vp_in_nI (by decide) (by decide)) dX7_pass_92 (fun H1 locs hP1 z1 oq1 hS => ?_)
                rw [show Int32.toNatClampNeg 3 = 3 from clI 3 (by decide)] at hP1
                have hw := hw.setI hA (mk_st hlt8j) (ml_st hlt8j) hP1 oq1
                rw [mset_mset] at hw
                refine lv_iinc (v := (nI (j + 1))) (lv' := [(3, .int (nI (j + 1))), (4, .ref (md (10 + j))), (2, .int (nI u)), (0, .ref (md 0)), (1, .int n)]) hx hb dX7_pass_93 hl (k := 1) rfl ((nI_succ j).symm) (by decide) rfl (fun ls hl => ?_)
                have hml : c.maxLocals = ls.size := hml9.trans hl.1.symm
                refine lv_goto (tgt := 40) hx hb dX7_pass_96 (by decide) ?_
                exact ih9 (j + 1) _ _ (by omega) hltj (by rw [← mStars_s]; exact hw) hS ls (lv_sub hl [0, 2, 3, 4] rfl)
          exact lp40_2 (ns + 1) 0 _ _ (Nat.le_refl _) (Nat.zero_le _) (by rw [mStars_0]; exact hw) hS ls (lv_sub hl [0, 1, 2, 3] rfl)
    exact lp23_1 (k + 1) 0 _ _ (Nat.le_refl _) (Nat.zero_le _) (by rw [mPassN_0]; exact hw) hS ls (lv_sub hl [0, 1, 2] rfl)
  · have c_12 := mIs_f c_12
    refine lv_aload_n hx hb dX7_pass_15 rfl (lv_at hl 0 rfl) ?_
    refine lv_iconst (v := 1) hx hb dX7_pass_16 (by decide) ?_
    refine kc_ui (kr_V (As := [.int 1]) (rest := []) hx hb hml hown hG (c_X7_refuse l D cy md (thr N 0) co su hA 1) cf_X7_refuse wM_X7_95 hw.o rfl hw ⟨rfl, rfl, by decide, by decide⟩ rfl rfl (Nat.le_of_ble_eq_true rfl) ⟨Nat.le_of_ble_eq_true rfl, Nat.le_of_ble_eq_true rfl⟩ dX7_pass_17) hS (fun _ h => h) (fun r_17 H1 locs hp1 z1 oq1 hS => ?_)
    obtain ⟨e9, hw⟩ := hp1
    subst e9
    rw [thr_thr] at hw
    exact ke_ui hx hb hr hlk hS dX7_pass_20 (Or.inl ⟨by unfold kIn; rw [if_neg c_12], hw⟩)
