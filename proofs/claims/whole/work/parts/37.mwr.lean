set_option maxHeartbeats 4000000 in
set_option maxRecDepth 100000 in
theorem c_X7_refuse (l : Launch) (D : va_G) (cy : Nat → ClassId) (md : Nat → Nat) (N : Nat → Nat → Int32) (co su : Int64) (hA : MI md) (k : Int32) : Met l yX7_refuse [.code yX7_refuse cX7_refuse 2 (some .int)] ({ frames := 0, cells := 0, slots := 0, locals := 0 } : Room) (PC D cy [.ref (md 0), .int k] (fun H => MW D cy md N co su H)) (UQi (MA md) (fun r H => r = 0 ∧ MW D cy md (thr N k) co su H)) 0 0 (MA md) := by
  refine k_body (by decide +kernel) (Nat.le_of_ble_eq_true rfl) ?_
  intro p e s m below meth c ls hx hb hml hown hr hlk hmn hl hG hI
  have hml9 : c.maxLocals = 2 := hml.trans hl.1
  have hl : lv_has ls 2 [(0, .ref (md 0)), (1, .int k)] := hl
  have hS : va_S (MA md) s.heap s.heap [] := va_S.rf
  have hw := hI
  refine lv_aload_n hx hb dX7_refuse_0 rfl (lv_at hl 0 rfl) ?_
  refine lv_iload_n hx hb dX7_refuse_1 rfl (lv_at hl 1 rfl) ?_
  refine k_put (ci := 7) (C := RX7) (T := TX7) (N := 20) (v := .int k) hx hb hown hG rfl kin_X7 tyX7 tyX7_ok nmX7 hw.o hS MA.o 0 (by decide) wF_X7_41 rfl rfl rfl (Nat.le_of_ble_eq_true rfl) dX7_refuse_2 (fun H1 locs hP1 z1 oq1 hS => ?_)
  have hw := hw.setO (r := (upd (N 0) 0 k)) (c' := co) (s' := su) hA hP1 oq1
  refine lv_iconst (v := 0) hx hb dX7_refuse_5 (by decide) ?_
  exact ke_ui hx hb hr hlk hS dX7_refuse_6 ⟨rfl, hw⟩
set_option maxHeartbeats 4000000 in
set_option maxRecDepth 100000 in
theorem c_X7_add (l : Launch) (D : va_G) (cy : Nat → ClassId) (md : Nat → Nat) (N : Nat → Nat → Int32) (co su : Int64) (hA : MI md) (v : Int32) : Met l yX7_add [.code yX7_add cX7_add 2 none] ({ frames := 0, cells := 0, slots := 0, locals := 0 } : Room) (PC D cy [.ref (md 0), .int v] (fun H => MW D cy md N co su H)) (UQv (MA md) (fun H => MW D cy md N co (su * 31 + v.toInt64) H)) 0 0 (MA md) := by
  refine k_body (by decide +kernel) (Nat.le_of_ble_eq_true rfl) ?_
  intro p e s m below meth c ls hx hb hml hown hr hlk hmn hl hG hI
  have hml9 : c.maxLocals = 2 := hml.trans hl.1
  have hl : lv_has ls 2 [(0, .ref (md 0)), (1, .int v)] := hl
  have hS : va_S (MA md) s.heap s.heap [] := va_S.rf
  have hw := hI
  refine lv_aload_n hx hb dX7_add_0 rfl (lv_at hl 0 rfl) ?_
  refine lv_aload_n hx hb dX7_add_1 rfl (lv_at hl 0 rfl) ?_
  refine k_get (ci := 7) (C := RX7) (T := TX7) (N := 20) (v := .long su) hx hb hown hG rfl kin_X7 hw.o 19 (by decide) wF_X7_226 rfl dX7_add_2 ?_
  refine lv_ldc2 hx hb hown (hG.w wK_X7_229 rfl) dX7_add_5 ?_
  refine lv_lmul hx hb dX7_add_8 ?_
  refine lv_iload_n hx hb dX7_add_9 rfl (lv_at hl 1 rfl) ?_
  refine lv_i2l (v := v.toInt64) hx hb dX7_add_10 rfl ?_
  refine lv_ladd hx hb dX7_add_11 ?_
  refine k_put (ci := 7) (C := RX7) (T := TX7) (N := 20) (v := .long ((su * 31) + v.toInt64)) hx hb hown hG rfl kin_X7 tyX7 tyX7_ok nmX7 hw.o hS MA.o 19 (by decide) wF_X7_226 rfl rfl rfl (Nat.le_of_ble_eq_true rfl) dX7_add_12 (fun H1 locs hP1 z1 oq1 hS => ?_)
  have hw : MW D cy md N co ((su * 31) + v.toInt64) H1 := hw.setL hA hP1 oq1
  exact ke_uv hx hb hr hlk hS dX7_add_15 hw
set_option maxHeartbeats 4000000 in
set_option maxRecDepth 100000 in
theorem c_X7_change (l : Launch) (D : va_G) (cy : Nat → ClassId) (md : Nat → Nat) (N : Nat → Nat → Int32) (co su : Int64) (hA : MI md) (i : Nat) (hi : i < 3) (w v : Int32) (hw22 : vp_in w 22) : Met l yX7_change [.code yX7_change cX7_change 5 (some .int)] ({ frames := 0, cells := 0, slots := 0, locals := 0 } : Room) (PC D cy [.ref (md 0), .int (nI i), .int w, .int v] (fun H => MW D cy md N co su H)) (UQi (MA md) (fun r H => r = N (40 + i) w.toNatClampNeg ∧ MW D cy md (mset N (40 + i) (upd (N (40 + i)) w.toNatClampNeg v)) co su H)) 0 0 (MA md) := by
  refine k_body (by decide +kernel) (Nat.le_of_ble_eq_true rfl) ?_
  intro p e s m below meth c ls hx hb hml hown hr hlk hmn hl hG hI
  have hml9 : c.maxLocals = 5 := hml.trans hl.1
  have hl : lv_has ls 5 [(0, .ref (md 0)), (1, .int (nI i)), (2, .int w), (3, .int v)] := hl
  have hS : va_S (MA md) s.heap s.heap [] := va_S.rf
  have hw := hI
  refine lv_aload_n hx hb dX7_change_0 rfl (lv_at hl 0 rfl) ?_
  refine k_get (ci := 7) (C := RX7) (T := TX7) (N := 20) (v := .ref (md 4)) hx hb hown hG rfl kin_X7 hw.o 6 (by decide) wF_X7_20 rfl dX7_change_1 ?_
  refine lv_iload_n hx hb dX7_change_4 rfl (lv_at hl 1 rfl) ?_
  refine k_ald2 (v := (md (40 + i))) hx hb hG 5 rfl hw.a4 (vp_in_nI (n := i) hi (by decide)) (mo_rc hi) dX7_change_5 ?_
  refine lv_iload_n hx hb dX7_change_6 rfl (lv_at hl 2 rfl) ?_
  refine k_iald (v := ((N (40 + i)) (w).toNatClampNeg)) hx hb hG (hw.rc hi) hw22 rfl dX7_change_7 ?_
  refine lv_istore (lv' := [(4, .int ((N (40 + i)) (w).toNatClampNeg)), (0, .ref (md 0)), (1, .int (nI i)), (2, .int w), (3, .int v)]) hx hb dX7_change_8 hl (by decide) rfl (fun ls hl => ?_)
  have hml : c.maxLocals = ls.size := hml9.trans hl.1.symm
  refine lv_aload_n hx hb dX7_change_10 rfl (lv_at hl 1 rfl) ?_
  refine k_get (ci := 7) (C := RX7) (T := TX7) (N := 20) (v := .ref (md 4)) hx hb hown hG rfl kin_X7 hw.o 6 (by decide) wF_X7_20 rfl dX7_change_11 ?_
  refine lv_iload_n hx hb dX7_change_14 rfl (lv_at hl 2 rfl) ?_
  refine k_ald2 (v := (md (40 + i))) hx hb hG 5 rfl hw.a4 (vp_in_nI (n := i) hi (by decide)) (mo_rc hi) dX7_change_15 ?_
  refine lv_iload_n hx hb dX7_change_16 rfl (lv_at hl 3 rfl) ?_
  refine lv_iload_n hx hb dX7_change_17 rfl (lv_at hl 4 rfl) ?_
  refine k_iast hx hb hG (hw.rc hi) hS (MA.i (mk_rc hi)) hw22 dX7_change_18 (fun H1 locs hP1 z1 oq1 hS => ?_)
  have hw := hw.setI hA (mk_rc hi) (ml_rc hi) hP1 oq1
  refine lv_iload hx hb dX7_change_19 (lv_at hl 0 rfl) ?_
  exact ke_ui hx hb hr hlk hS dX7_change_21 ⟨rfl, hw⟩
