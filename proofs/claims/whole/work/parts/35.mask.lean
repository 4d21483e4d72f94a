set_option maxHeartbeats 4000000 in
set_option maxRecDepth 100000 in
theorem c_X7_is (l : Launch) (D : va_G) (cy : Nat → ClassId) (v lo hi : Int32) : Met l yX7_is [.code yX7_is cX7_is 3 (some .boolean)] ({ frames := 0, cells := 0, slots := 0, locals := 0 } : Room) (PC D cy [.int v, .int lo, .int hi] (fun _ => True)) (RQi (bI (mIs v lo hi))) 0 0 (fun _ => False) := by
  refine k_body (by decide +kernel) (Nat.le_of_ble_eq_true rfl) ?_
  intro p e s m below meth c ls hx hb hml hown hr hlk hmn hl hG hI
  have hml9 : c.maxLocals = 3 := hml.trans hl.1
  have hl : lv_has ls 3 [(0, .int v), (1, .int lo), (2, .int hi)] := hl
  refine lv_iload_n hx hb dX7_is_0 rfl (lv_at hl 0 rfl) ?_
  refine lv_iload_n hx hb dX7_is_1 rfl (lv_at hl 1 rfl) ?_
  refine lv_icmp_lt (tgt := 14) hx hb dX7_is_2 (by decide) (fun c_2 => ?_) (fun c_2 => ?_)
  · refine lv_iconst (v := 0) hx hb dX7_is_14 (by decide) ?_
    exact ke_z hx hb hr hlk dX7_is_15 (by first | rfl | (try delta mIs; simp only [if_pos c_2, bI_true, bI_false]))
  · refine lv_iload_n hx hb dX7_is_5 rfl (lv_at hl 0 rfl) ?_
    refine lv_iload_n hx hb dX7_is_6 rfl (lv_at hl 2 rfl) ?_
    refine lv_icmp_gt (tgt := 14) hx hb dX7_is_7 (by decide) (fun c_7 => ?_) (fun c_7 => ?_)
    · refine lv_iconst (v := 0) hx hb dX7_is_14 (by decide) ?_
      exact ke_z hx hb hr hlk dX7_is_15 (by first | rfl | (try delta mIs; simp only [if_neg c_2, if_pos c_7, bI_true, bI_false]))
    · refine lv_iconst (v := 1) hx hb dX7_is_10 (by decide) ?_
      refine lv_goto (tgt := 15) hx hb dX7_is_11 (by decide) ?_
      exact ke_z hx hb hr hlk dX7_is_15 (by first | rfl | (try delta mIs; simp only [if_neg c_2, if_neg c_7, bI_true, bI_false]))
set_option maxHeartbeats 4000000 in
set_option maxRecDepth 100000 in
theorem c_X7_held (l : Launch) (D : va_G) (cy : Nat → ClassId) (v lim : Int32) : Met l yX7_held [.code yX7_held cX7_held 2 (some .int)] ({ frames := 1, cells := 0, slots := 0, locals := 23 } : Room) (PC D cy [.int v, .int lim] (fun _ => True)) (RQi (pHeld v lim)) 0 0 (fun _ => False) := by
  refine k_body (by decide +kernel) (Nat.le_of_ble_eq_true rfl) ?_
  intro p e s m below meth c ls hx hb hml hown hr hlk hmn hl hG hI
  have hml9 : c.maxLocals = 2 := hml.trans hl.1
  have hl : lv_has ls 2 [(0, .int v), (1, .int lim)] := hl
  refine lv_iload_n hx hb dX7_held_0 rfl (lv_at hl 1 rfl) ?_
  refine lv_ineg hx hb dX7_held_1 ?_
  refine lv_iload_n hx hb dX7_held_2 rfl (lv_at hl 1 rfl) ?_
  refine lv_iload_n hx hb dX7_held_3 rfl (lv_at hl 0 rfl) ?_
  refine k_mmin hx hb hml hown hG wM_X7_45 (Nat.le_of_ble_eq_true rfl) (Nat.le_of_ble_eq_true rfl) (Nat.le_of_ble_eq_true rfl) (Nat.le_of_ble_eq_true rfl) dX7_held_4 ?_
  refine k_mmax hx hb hml hown hG wM_X7_51 (Nat.le_of_ble_eq_true rfl) (Nat.le_of_ble_eq_true rfl) (Nat.le_of_ble_eq_true rfl) (Nat.le_of_ble_eq_true rfl) dX7_held_7 ?_
  exact ke_i hx hb hr hlk dX7_held_10 (by first | rfl | (try delta pHeld; simp only [bI_true, bI_false]))
set_option maxHeartbeats 4000000 in
set_option maxRecDepth 100000 in
theorem c_X7_tOf (l : Launch) (D : va_G) (cy : Nat → ClassId) (ph : Int32) : Met l yX7_tOf [.code yX7_tOf cX7_tOf 2 (some .int)] ({ frames := 1, cells := 0, slots := 0, locals := 22 } : Room) (PC D cy [.int ph] (fun _ => True)) (RQi (pT (pFMod ph 48))) 0 0 (fun _ => False) := by
  refine k_body (by decide +kernel) (Nat.le_of_ble_eq_true rfl) ?_
  intro p e s m below meth c ls hx hb hml hown hr hlk hmn hl hG hI
  have hml9 : c.maxLocals = 2 := hml.trans hl.1
  have hl : lv_has ls 2 [(0, .int ph)] := hl
  refine lv_iload_n hx hb dX7_tOf_0 rfl (lv_at hl 0 rfl) ?_
  refine lv_bipush (v := 48) hx hb dX7_tOf_1 (by decide) ?_
  refine kc_i (kr_S (As := [.int ph, .int 48]) (rest := []) hx hb hml hown hG (c_J9_floorMod_7cf53 l D cy ph 48 (by decide)) cf_J9_floorMod_7cf53 wM_X7_54 trivial ⟨rfl, rfl, by decide, by decide⟩ rfl rfl (Nat.le_of_ble_eq_true rfl) ⟨Nat.le_of_ble_eq_true rfl, Nat.le_of_ble_eq_true rfl⟩ dX7_tOf_3) ?_
  refine lv_istore_n (lv' := [(1, .int (pFMod ph 48)), (0, .int ph)]) hx hb dX7_tOf_6 rfl hl (by decide) rfl (fun ls hl => ?_)
  have hml : c.maxLocals = ls.size := hml9.trans hl.1.symm
  refine lv_iload_n hx hb dX7_tOf_7 rfl (lv_at hl 0 rfl) ?_
  refine lv_bipush (v := 12) hx hb dX7_tOf_8 (by decide) ?_
  refine lv_icmp_gt (tgt := 17) hx hb dX7_tOf_10 (by decide) (fun c_10 => ?_) (fun c_10 => ?_)
  · refine lv_iload_n hx hb dX7_tOf_17 rfl (lv_at hl 0 rfl) ?_
    refine lv_bipush (v := 36) hx hb dX7_tOf_18 (by decide) ?_
    refine lv_icmp_gt (tgt := 30) hx hb dX7_tOf_20 (by decide) (fun c_20 => ?_) (fun c_20 => ?_)
    · refine lv_iload_n hx hb dX7_tOf_30 rfl (lv_at hl 0 rfl) ?_
      refine lv_bipush (v := 48) hx hb dX7_tOf_31 (by decide) ?_
      refine lv_isub hx hb dX7_tOf_33 ?_
      exact ke_i hx hb hr hlk dX7_tOf_34 (by first | rfl | (try delta pT; simp only [if_pos c_10, if_pos c_20, bI_true, bI_false]))
    · refine lv_bipush (v := 24) hx hb dX7_tOf_23 (by decide) ?_
      refine lv_iload_n hx hb dX7_tOf_25 rfl (lv_at hl 0 rfl) ?_
      refine lv_isub hx hb dX7_tOf_26 ?_
      refine lv_goto (tgt := 34) hx hb dX7_tOf_27 (by decide) ?_
      exact ke_i hx hb hr hlk dX7_tOf_34 (by first | rfl | (try delta pT; simp only [if_pos c_10, if_neg c_20, bI_true, bI_false]))
  · refine lv_iload_n hx hb dX7_tOf_13 rfl (lv_at hl 0 rfl) ?_
    refine lv_goto (tgt := 34) hx hb dX7_tOf_14 (by decide) ?_
    exact ke_i hx hb hr hlk dX7_tOf_34 (by first | rfl | (try delta pT; simp only [if_neg c_10, bI_true, bI_false]))
set_option maxHeartbeats 4000000 in
set_option maxRecDepth 100000 in
theorem c_X7_range (l : Launch) (D : va_G) (cy : Nat → ClassId) (x y u v : Int32) : Met l yX7_range [.code yX7_range cX7_range 4 (some .int)] ({ frames := 1, cells := 0, slots := 0, locals := 23 } : Room) (PC D cy [.int x, .int y, .int u, .int v] (fun _ => True)) (RQi (pRange x y u v)) 0 0 (fun _ => False) := by
  refine k_body (by decide +kernel) (Nat.le_of_ble_eq_true rfl) ?_
  intro p e s m below meth c ls hx hb hml hown hr hlk hmn hl hG hI
  have hml9 : c.maxLocals = 4 := hml.trans hl.1
  have hl : lv_has ls 4 [(0, .int x), (1, .int y), (2, .int u), (3, .int v)] := hl
  refine lv_iload_n hx hb dX7_range_0 rfl (lv_at hl 0 rfl) ?_
  refine lv_iload_n hx hb dX7_range_1 rfl (lv_at hl 2 rfl) ?_
  refine lv_isub hx hb dX7_range_2 ?_
  refine k_mabs hx hb hml hown hG wM_X7_61 (Nat.le_of_ble_eq_true rfl) (Nat.le_of_ble_eq_true rfl) (Nat.le_of_ble_eq_true rfl) (Nat.le_of_ble_eq_true rfl) dX7_range_3 ?_
  refine lv_iload_n hx hb dX7_range_6 rfl (lv_at hl 1 rfl) ?_
  refine lv_iload_n hx hb dX7_range_7 rfl (lv_at hl 3 rfl) ?_
  refine lv_isub hx hb dX7_range_8 ?_
  refine k_mabs hx hb hml hown hG wM_X7_61 (Nat.le_of_ble_eq_true rfl) (Nat.le_of_ble_eq_true rfl) (Nat.le_of_ble_eq_true rfl) (Nat.le_of_ble_eq_true rfl) dX7_range_9 ?_
  refine k_mmax hx hb hml hown hG wM_X7_51 (Nat.le_of_ble_eq_true rfl) (Nat.le_of_ble_eq_true rfl) (Nat.le_of_ble_eq_true rfl) (Nat.le_of_ble_eq_true rfl) dX7_range_12 ?_
  exact ke_i hx hb hr hlk dX7_range_15 (by first | rfl | (try delta pRange; simp only [bI_true, bI_false]))
set_option maxHeartbeats 4000000 in
set_option maxRecDepth 100000 in
theorem c_X7_isPlace (l : Launch) (D : va_G) (cy : Nat → ClassId) (x y : Int32) : Met l yX7_isPlace [.code yX7_isPlace cX7_isPlace 2 (some .boolean)] ({ frames := 1, cells := 0, slots := 0, locals := 22 } : Room) (PC D cy [.int x, .int y] (fun _ => True)) (RQi (bI (mPlace x y))) 0 0 (fun _ => False) := by
  refine k_body (by decide +kernel) (Nat.le_of_ble_eq_true rfl) ?_
  intro p e s m below meth c ls hx hb hml hown hr hlk hmn hl hG hI
  have hml9 : c.maxLocals = 2 := hml.trans hl.1
  have hl : lv_has ls 2 [(0, .int x), (1, .int y)] := hl
  refine lv_iload_n hx hb dX7_isPlace_0 rfl (lv_at hl 0 rfl) ?_
  refine lv_bipush (v := (-12)) hx hb dX7_isPlace_1 (by decide) ?_
  refine lv_bipush (v := 12) hx hb dX7_isPlace_3 (by decide) ?_
  refine kc_i (kr_S (As := [.int x, .int (-12), .int 12]) (rest := []) hx hb hml hown hG (c_X7_is l D cy x (-12) 12) cf_X7_is wM_X7_86 trivial ⟨rfl, rfl, by decide, by decide⟩ rfl rfl (Nat.le_of_ble_eq_true rfl) ⟨Nat.le_of_ble_eq_true rfl, Nat.le_of_ble_eq_true rfl⟩ dX7_isPlace_5) ?_
  refine lv_if_eq (tgt := 25) hx hb dX7_isPlace_8 (by decide) (fun c_8 => ?_) (fun c_8 => ?_)
  · refine lv_iconst (v := 0) hx hb dX7_isPlace_25 (by decide) ?_
    exact ke_z hx hb hr hlk dX7_isPlace_26 (by first | rfl | (try delta mPlace; simp only [if_pos c_8, bI_true, bI_false]))
  · refine lv_iload_n hx hb dX7_isPlace_11 rfl (lv_at hl 1 rfl) ?_
    refine lv_iconst (v := 0) hx hb dX7_isPlace_12 (by decide) ?_
    refine lv_bipush (v := 12) hx hb dX7_isPlace_13 (by decide) ?_
    refine kc_i (kr_S (As := [.int y, .int 0, .int 12]) (rest := []) hx hb hml hown hG (c_X7_is l D cy y 0 12) cf_X7_is wM_X7_86 trivial ⟨rfl, rfl, by decide, by decide⟩ rfl rfl (Nat.le_of_ble_eq_true rfl) ⟨Nat.le_of_ble_eq_true rfl, Nat.le_of_ble_eq_true rfl⟩ dX7_isPlace_15) ?_
    refine lv_if_eq (tgt := 25) hx hb dX7_isPlace_18 (by decide) (fun c_18 => ?_) (fun c_18 => ?_)
    · refine lv_iconst (v := 0) hx hb dX7_isPlace_25 (by decide) ?_
      exact ke_z hx hb hr hlk dX7_isPlace_26 (by first | rfl | (try delta mPlace; simp only [if_neg c_8, if_pos c_18, bI_true, bI_false]))
    · refine lv_iconst (v := 1) hx hb dX7_isPlace_21 (by decide) ?_
      refine lv_goto (tgt := 26) hx hb dX7_isPlace_22 (by decide) ?_
      exact ke_z hx hb hr hlk dX7_isPlace_26 (by first | rfl | (try delta mPlace; simp only [if_neg c_8, if_neg c_18, bI_true, bI_false]))
set_option maxHeartbeats 4000000 in
set_option maxRecDepth 100000 in
theorem c_X7_thrown (l : Launch) (D : va_G) (cy : Nat → ClassId) (md : Nat → Nat) (N : Nat → Nat → Int32) (co su : Int64) : Met l yX7_thrown [.code yX7_thrown cX7_thrown 1 (some .int)] ({ frames := 0, cells := 0, slots := 0, locals := 0 } : Room) (PC D cy [.ref (md 0)] (fun H => MW D cy md N co su H)) (RQi (N 0 0)) 0 0 (fun _ => False) := by
  refine k_body (by decide +kernel) (Nat.le_of_ble_eq_true rfl) ?_
  intro p e s m below meth c ls hx hb hml hown hr hlk hmn hl hG hI
  have hml9 : c.maxLocals = 1 := hml.trans hl.1
  have hl : lv_has ls 1 [(0, .ref (md 0))] := hl
  have hw := hI
  refine lv_aload_n hx hb dX7_thrown_0 rfl (lv_at hl 0 rfl) ?_
  refine k_get (ci := 7) (C := RX7) (T := TX7) (N := 20) (v := .int ((N 0) 0)) hx hb hown hG rfl kin_X7 hw.o 0 (by decide) wF_X7_41 rfl dX7_thrown_1 ?_
  exact ke_i hx hb hr hlk dX7_thrown_4 (by first | rfl | (try delta mO; simp only [bI_true, bI_false]))
set_option maxHeartbeats 4000000 in
set_option maxRecDepth 100000 in
theorem c_X7_xAt (l : Launch) (D : va_G) (cy : Nat → ClassId) (md : Nat → Nat) (N : Nat → Nat → Int32) (co su : Int64) (i : Nat) (hi : i < 8) (ph : Int32) : Met l yX7_xAt [.code yX7_xAt cX7_xAt 3 (some .int)] ({ frames := 2, cells := 0, slots := 0, locals := 43 } : Room) (PC D cy [.ref (md 0), .int (nI i), .int ph] (fun H => MW D cy md N co su H)) (RQi (mX (N (10 + i)) ph)) 0 0 (fun _ => False) := by
  refine k_body (by decide +kernel) (Nat.le_of_ble_eq_true rfl) ?_
  intro p e s m below meth c ls hx hb hml hown hr hlk hmn hl hG hI
  have hml9 : c.maxLocals = 3 := hml.trans hl.1
  have hl : lv_has ls 3 [(0, .ref (md 0)), (1, .int (nI i)), (2, .int ph)] := hl
  have hw := hI
  refine lv_aload_n hx hb dX7_xAt_0 rfl (lv_at hl 0 rfl) ?_
  refine k_get (ci := 7) (C := RX7) (T := TX7) (N := 20) (v := .ref (md 1)) hx hb hown hG rfl kin_X7 hw.o 3 (by decide) wF_X7_11 rfl dX7_xAt_1 ?_
  refine lv_iload_n hx hb dX7_xAt_4 rfl (lv_at hl 1 rfl) ?_
  refine k_ald2 (v := (md (10 + i))) hx hb hG 5 rfl hw.a1 (vp_in_nI (n := i) hi (by decide)) (mo_st hi) dX7_xAt_5 ?_
  refine lv_iconst (v := 0) hx hb dX7_xAt_6 (by decide) ?_
  refine k_iald (v := ((N (10 + i)) 0)) hx hb hG (hw.st hi) (show vp_in (nI 0) 6 from vp_in_nI (by decide) (by decide)) (congrArg (N (10 + i)) (clI 0 (by decide))) dX7_xAt_7 ?_
  refine lv_iload_n hx hb dX7_xAt_8 rfl (lv_at hl 2 rfl) ?_
  refine kc_i (kr_S (As := [.int ph]) (rest := [.int ((N (10 + i)) 0)]) hx hb hml hown hG (c_X7_tOf l D cy ph) cf_X7_tOf wM_X7_57 trivial ⟨rfl, rfl, by decide, by decide⟩ rfl rfl (Nat.le_of_ble_eq_true rfl) ⟨Nat.le_of_ble_eq_true rfl, Nat.le_of_ble_eq_true rfl⟩ dX7_xAt_9) ?_
  refine lv_imul hx hb dX7_xAt_12 ?_
  refine lv_bipush (v := 12) hx hb dX7_xAt_13 (by decide) ?_
  refine lv_idiv hx hb dX7_xAt_15 (by decide) ?_
  exact ke_i hx hb hr hlk dX7_xAt_16 (by first | rfl | (try delta mX; simp only [bI_true, bI_false]))
set_option maxHeartbeats 4000000 in
set_option maxRecDepth 100000 in
theorem c_X7_yAt (l : Launch) (D : va_G) (cy : Nat → ClassId) (md : Nat → Nat) (N : Nat → Nat → Int32) (co su : Int64) (i : Nat) (hi : i < 8) (ph : Int32) : Met l yX7_yAt [.code yX7_yAt cX7_yAt 3 (some .int)] ({ frames := 2, cells := 0, slots := 0, locals := 43 } : Room) (PC D cy [.ref (md 0), .int (nI i), .int ph] (fun H => MW D cy md N co su H)) (RQi (mY (N (10 + i)) ph)) 0 0 (fun _ => False) := by
  refine k_body (by decide +kernel) (Nat.le_of_ble_eq_true rfl) ?_
  intro p e s m below meth c ls hx hb hml hown hr hlk hmn hl hG hI
  have hml9 : c.maxLocals = 3 := hml.trans hl.1
  have hl : lv_has ls 3 [(0, .ref (md 0)), (1, .int (nI i)), (2, .int ph)] := hl
  have hw := hI
  refine lv_aload_n hx hb dX7_yAt_0 rfl (lv_at hl 0 rfl) ?_
  refine k_get (ci := 7) (C := RX7) (T := TX7) (N := 20) (v := .ref (md 1)) hx hb hown hG rfl kin_X7 hw.o 3 (by decide) wF_X7_11 rfl dX7_yAt_1 ?_
  refine lv_iload_n hx hb dX7_yAt_4 rfl (lv_at hl 1 rfl) ?_
  refine k_ald2 (v := (md (10 + i))) hx hb hG 5 rfl hw.a1 (vp_in_nI (n := i) hi (by decide)) (mo_st hi) dX7_yAt_5 ?_
  refine lv_iconst (v := 0) hx hb dX7_yAt_6 (by decide) ?_
  refine k_iald (v := ((N (10 + i)) 0)) hx hb hG (hw.st hi) (show vp_in (nI 0) 6 from vp_in_nI (by decide) (by decide)) (congrArg (N (10 + i)) (clI 0 (by decide))) dX7_yAt_7 ?_
  refine lv_iload_n hx hb dX7_yAt_8 rfl (lv_at hl 2 rfl) ?_
  refine lv_bipush (v := 12) hx hb dX7_yAt_9 (by decide) ?_
  refine lv_iadd hx hb dX7_yAt_11 ?_
  refine kc_i (kr_S (As := [.int (ph + 12)]) (rest := [.int ((N (10 + i)) 0)]) hx hb hml hown hG (c_X7_tOf l D cy (ph + 12)) cf_X7_tOf wM_X7_57 trivial ⟨rfl, rfl, by decide, by decide⟩ rfl rfl (Nat.le_of_ble_eq_true rfl) ⟨Nat.le_of_ble_eq_true rfl, Nat.le_of_ble_eq_true rfl⟩ dX7_yAt_12) ?_
  refine lv_imul hx hb dX7_yAt_15 ?_
  refine lv_bipush (v := 12) hx hb dX7_yAt_16 (by decide) ?_
  refine lv_idiv hx hb dX7_yAt_18 (by decide) ?_
  exact ke_i hx hb hr hlk dX7_yAt_19 (by first | rfl | (try delta mY; simp only [bI_true, bI_false]))
set_option maxHeartbeats 4000000 in
set_option maxRecDepth 100000 in
theorem c_X7_phaseIn (l : Launch) (D : va_G) (cy : Nat → ClassId) (md : Nat → Nat) (N : Nat → Nat → Int32) (co su : Int64) (i : Nat) (hi : i < 8) (k : Int32) : Met l yX7_phaseIn [.code yX7_phaseIn cX7_phaseIn 3 (some .int)] ({ frames := 0, cells := 0, slots := 0, locals := 0 } : Room) (PC D cy [.ref (md 0), .int (nI i), .int k] (fun H => MW D cy md N co su H)) (RQi (mPh (N (10 + i)) k)) 0 0 (fun _ => False) := by
  refine k_body (by decide +kernel) (Nat.le_of_ble_eq_true rfl) ?_
  intro p e s m below meth c ls hx hb hml hown hr hlk hmn hl hG hI
  have hml9 : c.maxLocals = 3 := hml.trans hl.1
  have hl : lv_has ls 3 [(0, .ref (md 0)), (1, .int (nI i)), (2, .int k)] := hl
  have hw := hI
  refine lv_aload_n hx hb dX7_phaseIn_0 rfl (lv_at hl 0 rfl) ?_
  refine k_get (ci := 7) (C := RX7) (T := TX7) (N := 20) (v := .ref (md 1)) hx hb hown hG rfl kin_X7 hw.o 3 (by decide) wF_X7_11 rfl dX7_phaseIn_1 ?_
  refine lv_iload_n hx hb dX7_phaseIn_4 rfl (lv_at hl 1 rfl) ?_
  refine k_ald2 (v := (md (10 + i))) hx hb hG 5 rfl hw.a1 (vp_in_nI (n := i) hi (by decide)) (mo_st hi) dX7_phaseIn_5 ?_
  refine lv_iconst (v := 1) hx hb dX7_phaseIn_6 (by decide) ?_
  refine k_iald (v := ((N (10 + i)) 1)) hx hb hG (hw.st hi) (show vp_in (nI 1) 6 from vp_in_nI (by decide) (by decide)) (congrArg (N (10 + i)) (clI 1 (by decide))) dX7_phaseIn_7 ?_
  refine lv_iload_n hx hb dX7_phaseIn_8 rfl (lv_at hl 2 rfl) ?_
  refine lv_aload_n hx hb dX7_phaseIn_9 rfl (lv_at hl 0 rfl) ?_
  refine k_get (ci := 7) (C := RX7) (T := TX7) (N := 20) (v := .ref (md 1)) hx hb hown hG rfl kin_X7 hw.o 3 (by decide) wF_X7_11 rfl dX7_phaseIn_10 ?_
  refine lv_iload_n hx hb dX7_phaseIn_13 rfl (lv_at hl 1 rfl) ?_
  refine k_ald2 (v := (md (10 + i))) hx hb hG 5 rfl hw.a1 (vp_in_nI (n := i) hi (by decide)) (mo_st hi) dX7_phaseIn_14 ?_
  refine lv_iconst (v := 2) hx hb dX7_phaseIn_15 (by decide) ?_
  refine k_iald (v := ((N (10 + i)) 2)) hx hb hG (hw.st hi) (show vp_in (nI 2) 6 from vp_in_nI (by decide) (by decide)) (congrArg (N (10 + i)) (clI 2 (by decide))) dX7_phaseIn_16 ?_
  refine lv_imul hx hb dX7_phaseIn_17 ?_
  refine lv_iadd hx hb dX7_phaseIn_18 ?_
  exact ke_i hx hb hr hlk dX7_phaseIn_19 (by first | rfl | (try delta mPh; simp only [bI_true, bI_false]))
set_option maxHeartbeats 4000000 in
set_option maxRecDepth 100000 in
theorem c_X7_since (l : Launch) (D : va_G) (cy : Nat → ClassId) (md : Nat → Nat) (N : Nat → Nat → Int32) (co su : Int64) (i : Nat) (hi : i < 8) : Met l yX7_since [.code yX7_since cX7_since 2 (some .int)] ({ frames := 0, cells := 0, slots := 0, locals := 0 } : Room) (PC D cy [.ref (md 0), .int (nI i)] (fun H => MW D cy md N co su H)) (RQi (N 0 1 - N (20 + i) 1)) 0 0 (fun _ => False) := by
  refine k_body (by decide +kernel) (Nat.le_of_ble_eq_true rfl) ?_
  intro p e s m below meth c ls hx hb hml hown hr hlk hmn hl hG hI
  have hml9 : c.maxLocals = 2 := hml.trans hl.1
  have hl : lv_has ls 2 [(0, .ref (md 0)), (1, .int (nI i))] := hl
  have hw := hI
  refine lv_aload_n hx hb dX7_since_0 rfl (lv_at hl 0 rfl) ?_
  refine k_get (ci := 7) (C := RX7) (T := TX7) (N := 20) (v := .int ((N 0) 1)) hx hb hown hG rfl kin_X7 hw.o 1 (by decide) wF_X7_64 rfl dX7_since_1 ?_
  refine lv_aload_n hx hb dX7_since_4 rfl (lv_at hl 0 rfl) ?_
  refine k_get (ci := 7) (C := RX7) (T := TX7) (N := 20) (v := .ref (md 2)) hx hb hown hG rfl kin_X7 hw.o 4 (by decide) wF_X7_14 rfl dX7_since_5 ?_
  refine lv_iload_n hx hb dX7_since_8 rfl (lv_at hl 1 rfl) ?_
  refine k_ald2 (v := (md (20 + i))) hx hb hG 5 rfl hw.a2 (vp_in_nI (n := i) hi (by decide)) (mo_ms hi) dX7_since_9 ?_
  refine lv_iconst (v := 1) hx hb dX7_since_10 (by decide) ?_
  refine k_iald (v := ((N (20 + i)) 1)) hx hb hG (hw.ms hi) (show vp_in (nI 1) 5 from vp_in_nI (by decide) (by decide)) (congrArg (N (20 + i)) (clI 1 (by decide))) dX7_since_11 ?_
  refine lv_isub hx hb dX7_since_12 ?_
  exact ke_i hx hb hr hlk dX7_since_13 (by first | rfl | (try delta mO; simp only [bI_true, bI_false]))
set_option maxHeartbeats 4000000 in
set_option maxRecDepth 100000 in
theorem c_X7_toldPhase (l : Launch) (D : va_G) (cy : Nat → ClassId) (md : Nat → Nat) (N : Nat → Nat → Int32) (co su : Int64) (i : Nat) (hi : i < 8) : Met l yX7_toldPhase [.code yX7_toldPhase cX7_toldPhase 2 (some .int)] ({ frames := 1, cells := 0, slots := 0, locals := 21 } : Room) (PC D cy [.ref (md 0), .int (nI i)] (fun H => MW D cy md N co su H)) (RQi (mTP (N 0 1) (N (10 + i)) (N (20 + i)))) 0 0 (fun _ => False) := by
  refine k_body (by decide +kernel) (Nat.le_of_ble_eq_true rfl) ?_
  intro p e s m below meth c ls hx hb hml hown hr hlk hmn hl hG hI
  have hml9 : c.maxLocals = 2 := hml.trans hl.1
  have hl : lv_has ls 2 [(0, .ref (md 0)), (1, .int (nI i))] := hl
  have hw := hI
  refine lv_aload_n hx hb dX7_toldPhase_0 rfl (lv_at hl 0 rfl) ?_
  refine k_get (ci := 7) (C := RX7) (T := TX7) (N := 20) (v := .ref (md 2)) hx hb hown hG rfl kin_X7 hw.o 4 (by decide) wF_X7_14 rfl dX7_toldPhase_1 ?_
  refine lv_iload_n hx hb dX7_toldPhase_4 rfl (lv_at hl 1 rfl) ?_
  refine k_ald2 (v := (md (20 + i))) hx hb hG 5 rfl hw.a2 (vp_in_nI (n := i) hi (by decide)) (mo_ms hi) dX7_toldPhase_5 ?_
  refine lv_iconst (v := 2) hx hb dX7_toldPhase_6 (by decide) ?_
  refine k_iald (v := ((N (20 + i)) 2)) hx hb hG (hw.ms hi) (show vp_in (nI 2) 5 from vp_in_nI (by decide) (by decide)) (congrArg (N (20 + i)) (clI 2 (by decide))) dX7_toldPhase_7 ?_
  refine lv_aload_n hx hb dX7_toldPhase_8 rfl (lv_at hl 0 rfl) ?_
  refine lv_iload_n hx hb dX7_toldPhase_9 rfl (lv_at hl 1 rfl) ?_
  refine kc_i (kr_V (As := [.int (nI i)]) (rest := [.int ((N (20 + i)) 2)]) hx hb hml hown hG (c_X7_since l D cy md N co su i hi) cf_X7_since wM_X7_67 hw.o rfl hw ⟨rfl, rfl, by decide, by decide⟩ rfl rfl (Nat.le_of_ble_eq_true rfl) ⟨Nat.le_of_ble_eq_true rfl, Nat.le_of_ble_eq_true rfl⟩ dX7_toldPhase_10) ?_
  refine lv_aload_n hx hb dX7_toldPhase_13 rfl (lv_at hl 0 rfl) ?_
  refine k_get (ci := 7) (C := RX7) (T := TX7) (N := 20) (v := .ref (md 1)) hx hb hown hG rfl kin_X7 hw.o 3 (by decide) wF_X7_11 rfl dX7_toldPhase_14 ?_
  refine lv_iload_n hx hb dX7_toldPhase_17 rfl (lv_at hl 1 rfl) ?_
  refine k_ald2 (v := (md (10 + i))) hx hb hG 5 rfl hw.a1 (vp_in_nI (n := i) hi (by decide)) (mo_st hi) dX7_toldPhase_18 ?_
  refine lv_iconst (v := 2) hx hb dX7_toldPhase_19 (by decide) ?_
  refine k_iald (v := ((N (10 + i)) 2)) hx hb hG (hw.st hi) (show vp_in (nI 2) 6 from vp_in_nI (by decide) (by decide)) (congrArg (N (10 + i)) (clI 2 (by decide))) dX7_toldPhase_20 ?_
  refine lv_imul hx hb dX7_toldPhase_21 ?_
  refine lv_iadd hx hb dX7_toldPhase_22 ?_
  exact ke_i hx hb hr hlk dX7_toldPhase_23 (by first | rfl | (try delta mTP; simp only [bI_true, bI_false]))
set_option maxHeartbeats 4000000 in
set_option maxRecDepth 100000 in
theorem c_X7_toldOffset (l : Launch) (D : va_G) (cy : Nat → ClassId) (md : Nat → Nat) (N : Nat → Nat → Int32) (co su : Int64) (i : Nat) (hi : i < 8) : Met l yX7_toldOffset [.code yX7_toldOffset cX7_toldOffset 2 (some .int)] ({ frames := 1, cells := 0, slots := 0, locals := 21 } : Room) (PC D cy [.ref (md 0), .int (nI i)] (fun H => MW D cy md N co su H)) (RQi (mTO (N 0 1) (N (20 + i)))) 0 0 (fun _ => False) := by
  refine k_body (by decide +kernel) (Nat.le_of_ble_eq_true rfl) ?_
  intro p e s m below meth c ls hx hb hml hown hr hlk hmn hl hG hI
  have hml9 : c.maxLocals = 2 := hml.trans hl.1
  have hl : lv_has ls 2 [(0, .ref (md 0)), (1, .int (nI i))] := hl
  have hw := hI
  refine lv_aload_n hx hb dX7_toldOffset_0 rfl (lv_at hl 0 rfl) ?_
  refine k_get (ci := 7) (C := RX7) (T := TX7) (N := 20) (v := .ref (md 2)) hx hb hown hG rfl kin_X7 hw.o 4 (by decide) wF_X7_14 rfl dX7_toldOffset_1 ?_
  refine lv_iload_n hx hb dX7_toldOffset_4 rfl (lv_at hl 1 rfl) ?_
  refine k_ald2 (v := (md (20 + i))) hx hb hG 5 rfl hw.a2 (vp_in_nI (n := i) hi (by decide)) (mo_ms hi) dX7_toldOffset_5 ?_
  refine lv_iconst (v := 3) hx hb dX7_toldOffset_6 (by decide) ?_
  refine k_iald (v := ((N (20 + i)) 3)) hx hb hG (hw.ms hi) (show vp_in (nI 3) 5 from vp_in_nI (by decide) (by decide)) (congrArg (N (20 + i)) (clI 3 (by decide))) dX7_toldOffset_7 ?_
  refine lv_aload_n hx hb dX7_toldOffset_8 rfl (lv_at hl 0 rfl) ?_
  refine lv_iload_n hx hb dX7_toldOffset_9 rfl (lv_at hl 1 rfl) ?_
  refine kc_i (kr_V (As := [.int (nI i)]) (rest := [.int ((N (20 + i)) 3)]) hx hb hml hown hG (c_X7_since l D cy md N co su i hi) cf_X7_since wM_X7_67 hw.o rfl hw ⟨rfl, rfl, by decide, by decide⟩ rfl rfl (Nat.le_of_ble_eq_true rfl) ⟨Nat.le_of_ble_eq_true rfl, Nat.le_of_ble_eq_true rfl⟩ dX7_toldOffset_10) ?_
  refine lv_aload_n hx hb dX7_toldOffset_13 rfl (lv_at hl 0 rfl) ?_
  refine k_get (ci := 7) (C := RX7) (T := TX7) (N := 20) (v := .ref (md 2)) hx hb hown hG rfl kin_X7 hw.o 4 (by decide) wF_X7_14 rfl dX7_toldOffset_14 ?_
  refine lv_iload_n hx hb dX7_toldOffset_17 rfl (lv_at hl 1 rfl) ?_
  refine k_ald2 (v := (md (20 + i))) hx hb hG 5 rfl hw.a2 (vp_in_nI (n := i) hi (by decide)) (mo_ms hi) dX7_toldOffset_18 ?_
  refine lv_iconst (v := 4) hx hb dX7_toldOffset_19 (by decide) ?_
  refine k_iald (v := ((N (20 + i)) 4)) hx hb hG (hw.ms hi) (show vp_in (nI 4) 5 from vp_in_nI (by decide) (by decide)) (congrArg (N (20 + i)) (clI 4 (by decide))) dX7_toldOffset_20 ?_
  refine lv_imul hx hb dX7_toldOffset_21 ?_
  refine lv_iadd hx hb dX7_toldOffset_22 ?_
  exact ke_i hx hb hr hlk dX7_toldOffset_23 (by first | rfl | (try delta mTO; simp only [bI_true, bI_false]))
set_option maxHeartbeats 4000000 in
set_option maxRecDepth 100000 in
theorem c_X7_holds (l : Launch) (D : va_G) (cy : Nat → ClassId) (md : Nat → Nat) (N : Nat → Nat → Int32) (co su : Int64) (i : Nat) (hi : i < 8) : Met l yX7_holds [.code yX7_holds cX7_holds 2 (some .boolean)] ({ frames := 1, cells := 0, slots := 0, locals := 21 } : Room) (PC D cy [.ref (md 0), .int (nI i)] (fun H => MW D cy md N co su H)) (RQi (bI (mHolds (N 0 1) (N (20 + i))))) 0 0 (fun _ => False) := by
  refine k_body (by decide +kernel) (Nat.le_of_ble_eq_true rfl) ?_
  intro p e s m below meth c ls hx hb hml hown hr hlk hmn hl hG hI
  have hml9 : c.maxLocals = 2 := hml.trans hl.1
  have hl : lv_has ls 2 [(0, .ref (md 0)), (1, .int (nI i))] := hl
  have hw := hI
  refine lv_aload_n hx hb dX7_holds_0 rfl (lv_at hl 0 rfl) ?_
  refine k_get (ci := 7) (C := RX7) (T := TX7) (N := 20) (v := .ref (md 2)) hx hb hown hG rfl kin_X7 hw.o 4 (by decide) wF_X7_14 rfl dX7_holds_1 ?_
  refine lv_iload_n hx hb dX7_holds_4 rfl (lv_at hl 1 rfl) ?_
  refine k_ald2 (v := (md (20 + i))) hx hb hG 5 rfl hw.a2 (vp_in_nI (n := i) hi (by decide)) (mo_ms hi) dX7_holds_5 ?_
  refine lv_iconst (v := 0) hx hb dX7_holds_6 (by decide) ?_
  refine k_iald (v := ((N (20 + i)) 0)) hx hb hG (hw.ms hi) (show vp_in (nI 0) 5 from vp_in_nI (by decide) (by decide)) (congrArg (N (20 + i)) (clI 0 (by decide))) dX7_holds_7 ?_
  refine lv_if_le (tgt := 25) hx hb dX7_holds_8 (by decide) (fun c_8 => ?_) (fun c_8 => ?_)
  · refine lv_iconst (v := 0) hx hb dX7_holds_25 (by decide) ?_
    exact ke_z hx hb hr hlk dX7_holds_26 (by first | rfl | (try delta mHolds; simp only [if_pos c_8, bI_true, bI_false]))
  · refine lv_aload_n hx hb dX7_holds_11 rfl (lv_at hl 0 rfl) ?_
    refine lv_iload_n hx hb dX7_holds_12 rfl (lv_at hl 1 rfl) ?_
    refine kc_i (kr_V (As := [.int (nI i)]) (rest := []) hx hb hml hown hG (c_X7_since l D cy md N co su i hi) cf_X7_since wM_X7_67 hw.o rfl hw ⟨rfl, rfl, by decide, by decide⟩ rfl rfl (Nat.le_of_ble_eq_true rfl) ⟨Nat.le_of_ble_eq_true rfl, Nat.le_of_ble_eq_true rfl⟩ dX7_holds_13) ?_
    refine lv_bipush (v := 12) hx hb dX7_holds_16 (by decide) ?_
    refine lv_icmp_gt (tgt := 25) hx hb dX7_holds_18 (by decide) (fun c_18 => ?_) (fun c_18 => ?_)
    · refine lv_iconst (v := 0) hx hb dX7_holds_25 (by decide) ?_
      exact ke_z hx hb hr hlk dX7_holds_26 (by first | rfl | (try delta mHolds; simp only [if_neg c_8, if_pos c_18, bI_true, bI_false]))
    · refine lv_iconst (v := 1) hx hb dX7_holds_21 (by decide) ?_
      refine lv_goto (tgt := 26) hx hb dX7_holds_22 (by decide) ?_
      exact ke_z hx hb hr hlk dX7_holds_26 (by first | rfl | (try delta mHolds; simp only [if_neg c_8, if_neg c_18, bI_true, bI_false]))
set_option maxHeartbeats 4000000 in
set_option maxRecDepth 100000 in
theorem c_X7_isStar (l : Launch) (D : va_G) (cy : Nat → ClassId) (md : Nat → Nat) (N : Nat → Nat → Int32) (co su : Int64) (v : Int32) : Met l yX7_isStar [.code yX7_isStar cX7_isStar 2 (some .boolean)] ({ frames := 1, cells := 0, slots := 0, locals := 22 } : Room) (PC D cy [.ref (md 0), .int v] (fun H => MW D cy md N co su H)) (RQi (bI (mIs v 0 (N 0 8 - 1)))) 0 0 (fun _ => False) := by
  refine k_body (by decide +kernel) (Nat.le_of_ble_eq_true rfl) ?_
  intro p e s m below meth c ls hx hb hml hown hr hlk hmn hl hG hI
  have hml9 : c.maxLocals = 2 := hml.trans hl.1
  have hl : lv_has ls 2 [(0, .ref (md 0)), (1, .int v)] := hl
  have hw := hI
  refine lv_iload_n hx hb dX7_isStar_0 rfl (lv_at hl 1 rfl) ?_
  refine lv_iconst (v := 0) hx hb dX7_isStar_1 (by decide) ?_
  refine lv_aload_n hx hb dX7_isStar_2 rfl (lv_at hl 0 rfl) ?_
  refine k_get (ci := 7) (C := RX7) (T := TX7) (N := 20) (v := .int ((N 0) 8)) hx hb hown hG rfl kin_X7 hw.o 8 (by decide) wF_X7_79 rfl dX7_isStar_3 ?_
  refine lv_iconst (v := 1) hx hb dX7_isStar_6 (by decide) ?_
  refine lv_isub hx hb dX7_isStar_7 ?_
  refine kc_i (kr_S (As := [.int v, .int 0, .int (((N 0) 8) - 1)]) (rest := []) hx hb hml hown hG (c_X7_is l D cy v 0 (((N 0) 8) - 1)) cf_X7_is wM_X7_86 trivial ⟨rfl, rfl, by decide, by decide⟩ rfl rfl (Nat.le_of_ble_eq_true rfl) ⟨Nat.le_of_ble_eq_true rfl, Nat.le_of_ble_eq_true rfl⟩ dX7_isStar_8) ?_
  exact ke_z hx hb hr hlk dX7_isStar_11 (by first | rfl | (try delta mO; simp only [bI_true, bI_false]))
set_option maxHeartbeats 4000000 in
set_option maxRecDepth 100000 in
theorem c_X7_isStation (l : Launch) (D : va_G) (cy : Nat → ClassId) (md : Nat → Nat) (N : Nat → Nat → Int32) (co su : Int64) (v : Int32) : Met l yX7_isStation [.code yX7_isStation cX7_isStation 2 (some .boolean)] ({ frames := 1, cells := 0, slots := 0, locals := 22 } : Room) (PC D cy [.ref (md 0), .int v] (fun H => MW D cy md N co su H)) (RQi (bI (mIs v 0 (N 0 9 - 1)))) 0 0 (fun _ => False) := by
  refine k_body (by decide +kernel) (Nat.le_of_ble_eq_true rfl) ?_
  intro p e s m below meth c ls hx hb hml hown hr hlk hmn hl hG hI
  have hml9 : c.maxLocals = 2 := hml.trans hl.1
  have hl : lv_has ls 2 [(0, .ref (md 0)), (1, .int v)] := hl
  have hw := hI
  refine lv_iload_n hx hb dX7_isStation_0 rfl (lv_at hl 1 rfl) ?_
  refine lv_iconst (v := 0) hx hb dX7_isStation_1 (by decide) ?_
  refine lv_aload_n hx hb dX7_isStation_2 rfl (lv_at hl 0 rfl) ?_
  refine k_get (ci := 7) (C := RX7) (T := TX7) (N := 20) (v := .int ((N 0) 9)) hx hb hown hG rfl kin_X7 hw.o 9 (by decide) wF_X7_89 rfl dX7_isStation_3 ?_
  refine lv_iconst (v := 1) hx hb dX7_isStation_6 (by decide) ?_
  refine lv_isub hx hb dX7_isStation_7 ?_
  refine kc_i (kr_S (As := [.int v, .int 0, .int (((N 0) 9) - 1)]) (rest := []) hx hb hml hown hG (c_X7_is l D cy v 0 (((N 0) 9) - 1)) cf_X7_is wM_X7_86 trivial ⟨rfl, rfl, by decide, by decide⟩ rfl rfl (Nat.le_of_ble_eq_true rfl) ⟨Nat.le_of_ble_eq_true rfl, Nat.le_of_ble_eq_true rfl⟩ dX7_isStation_8) ?_
  exact ke_z hx hb hr hlk dX7_isStation_11 (by first | rfl | (try delta mO; simp only [bI_true, bI_false]))
set_option maxHeartbeats 4000000 in
set_option maxRecDepth 100000 in
theorem c_X7_isReceiver (l : Launch) (D : va_G) (cy : Nat → ClassId) (md : Nat → Nat) (N : Nat → Nat → Int32) (co su : Int64) (v : Int32) : Met l yX7_isReceiver [.code yX7_isReceiver cX7_isReceiver 2 (some .boolean)] ({ frames := 1, cells := 0, slots := 0, locals := 22 } : Room) (PC D cy [.ref (md 0), .int v] (fun H => MW D cy md N co su H)) (RQi (bI (mIs v 0 (N 0 10 - 1)))) 0 0 (fun _ => False) := by
  refine k_body (by decide +kernel) (Nat.le_of_ble_eq_true rfl) ?_
  intro p e s m below meth c ls hx hb hml hown hr hlk hmn hl hG hI
  have hml9 : c.maxLocals = 2 := hml.trans hl.1
  have hl : lv_has ls 2 [(0, .ref (md 0)), (1, .int v)] := hl
  have hw := hI
  refine lv_iload_n hx hb dX7_isReceiver_0 rfl (lv_at hl 1 rfl) ?_
  refine lv_iconst (v := 0) hx hb dX7_isReceiver_1 (by decide) ?_
  refine lv_aload_n hx hb dX7_isReceiver_2 rfl (lv_at hl 0 rfl) ?_
  refine k_get (ci := 7) (C := RX7) (T := TX7) (N := 20) (v := .int ((N 0) 10)) hx hb hown hG rfl kin_X7 hw.o 10 (by decide) wF_X7_92 rfl dX7_isReceiver_3 ?_
  refine lv_iconst (v := 1) hx hb dX7_isReceiver_6 (by decide) ?_
  refine lv_isub hx hb dX7_isReceiver_7 ?_
  refine kc_i (kr_S (As := [.int v, .int 0, .int (((N 0) 10) - 1)]) (rest := []) hx hb hml hown hG (c_X7_is l D cy v 0 (((N 0) 10) - 1)) cf_X7_is wM_X7_86 trivial ⟨rfl, rfl, by decide, by decide⟩ rfl rfl (Nat.le_of_ble_eq_true rfl) ⟨Nat.le_of_ble_eq_true rfl, Nat.le_of_ble_eq_true rfl⟩ dX7_isReceiver_8) ?_
  exact ke_z hx hb hr hlk dX7_isReceiver_11 (by first | rfl | (try delta mO; simp only [bI_true, bI_false]))
set_option maxHeartbeats 4000000 in
set_option maxRecDepth 100000 in
theorem c_X7_isHeard (l : Launch) (D : va_G) (cy : Nat → ClassId) (md : Nat → Nat) (N : Nat → Nat → Int32) (co su : Int64) (i j : Nat) (hi : i < 8) (hj : j < 3) (k : Int32) : Met l yX7_isHeard [.code yX7_isHeard cX7_isHeard 5 (some .boolean)] ({ frames := 3, cells := 0, slots := 0, locals := 65 } : Room) (PC D cy [.ref (md 0), .int (nI i), .int (nI j), .int k] (fun H => MW D cy md N co su H)) (RQi (bI (mHear (N (10 + i)) (N (30 + j)) k))) 0 0 (fun _ => False) := by
  refine k_body (by decide +kernel) (Nat.le_of_ble_eq_true rfl) ?_
  intro p e s m below meth c ls hx hb hml hown hr hlk hmn hl hG hI
  have hml9 : c.maxLocals = 5 := hml.trans hl.1
  have hl : lv_has ls 5 [(0, .ref (md 0)), (1, .int (nI i)), (2, .int (nI j)), (3, .int k)] := hl
  have hw := hI
  refine lv_aload_n hx hb dX7_isHeard_0 rfl (lv_at hl 0 rfl) ?_
  refine lv_iload_n hx hb dX7_isHeard_1 rfl (lv_at hl 1 rfl) ?_
  refine lv_aload_n hx hb dX7_isHeard_2 rfl (lv_at hl 0 rfl) ?_
  refine lv_iload_n hx hb dX7_isHeard_3 rfl (lv_at hl 1 rfl) ?_
  refine lv_iload_n hx hb dX7_isHeard_4 rfl (lv_at hl 3 rfl) ?_
  refine kc_i (kr_V (As := [.int (nI i), .int k]) (rest := [.int (nI i), .ref (md 0)]) hx hb hml hown hG (c_X7_phaseIn l D cy md N co su i hi k) cf_X7_phaseIn wM_X7_70 hw.o rfl hw ⟨rfl, rfl, by decide, by decide⟩ rfl rfl (Nat.le_of_ble_eq_true rfl) ⟨Nat.le_of_ble_eq_true rfl, Nat.le_of_ble_eq_true rfl⟩ dX7_isHeard_5) ?_
  refine kc_i (kr_V (As := [.int (nI i), .int (mPh (N (10 + i)) k)]) (rest := []) hx hb hml hown hG (c_X7_yAt l D cy md N co su i hi (mPh (N (10 + i)) k)) cf_X7_yAt wM_X7_73 hw.o rfl hw ⟨rfl, rfl, by decide, by decide⟩ rfl rfl (Nat.le_of_ble_eq_true rfl) ⟨Nat.le_of_ble_eq_true rfl, Nat.le_of_ble_eq_true rfl⟩ dX7_isHeard_8) ?_
  refine lv_istore (lv' := [(4, .int (mY (N (10 + i)) (mPh (N (10 + i)) k))), (0, .ref (md 0)), (1, .int (nI i)), (2, .int (nI j)), (3, .int k)]) hx hb dX7_isHeard_11 hl (by decide) rfl (fun ls hl => ?_)
  have hml : c.maxLocals = ls.size := hml9.trans hl.1.symm
  refine lv_aload_n hx hb dX7_isHeard_13 rfl (lv_at hl 1 rfl) ?_
  refine k_get (ci := 7) (C := RX7) (T := TX7) (N := 20) (v := .ref (md 1)) hx hb hown hG rfl kin_X7 hw.o 3 (by decide) wF_X7_11 rfl dX7_isHeard_14 ?_
  refine lv_iload_n hx hb dX7_isHeard_17 rfl (lv_at hl 2 rfl) ?_
  refine k_ald2 (v := (md (10 + i))) hx hb hG 5 rfl hw.a1 (vp_in_nI (n := i) hi (by decide)) (mo_st hi) dX7_isHeard_18 ?_
  refine lv_iconst (v := 5) hx hb dX7_isHeard_19 (by decide) ?_
  refine k_iald (v := ((N (10 + i)) 5)) hx hb hG (hw.st hi) (show vp_in (nI 5) 6 from vp_in_nI (by decide) (by decide)) (congrArg (N (10 + i)) (clI 5 (by decide))) dX7_isHeard_20 ?_
  refine lv_iconst (v := 1) hx hb dX7_isHeard_21 (by decide) ?_
  refine lv_icmp_ne (tgt := 66) hx hb dX7_isHeard_22 (by decide) (fun c_22 => ?_) (fun c_22 => ?_)
  · refine lv_iconst (v := 0) hx hb dX7_isHeard_66 (by decide) ?_
    exact ke_z hx hb hr hlk dX7_isHeard_67 (by first | rfl | (try delta mHear; simp only [if_neg c_22, bI_true, bI_false]))
  · refine lv_iload hx hb dX7_isHeard_25 (lv_at hl 0 rfl) ?_
    refine lv_bipush (v := 10) hx hb dX7_isHeard_27 (by decide) ?_
    refine lv_icmp_lt (tgt := 66) hx hb dX7_isHeard_29 (by decide) (fun c_29 => ?_) (fun c_29 => ?_)
    · refine lv_iconst (v := 0) hx hb dX7_isHeard_66 (by decide) ?_
      exact ke_z hx hb hr hlk dX7_isHeard_67 (by first | rfl | (try delta mHear; simp only [if_pos c_22, if_pos c_29, bI_true, bI_false]))
    · refine lv_aload_n hx hb dX7_isHeard_32 rfl (lv_at hl 1 rfl) ?_
      refine lv_iload_n hx hb dX7_isHeard_33 rfl (lv_at hl 2 rfl) ?_
      refine lv_aload_n hx hb dX7_isHeard_34 rfl (lv_at hl 1 rfl) ?_
      refine lv_iload_n hx hb dX7_isHeard_35 rfl (lv_at hl 2 rfl) ?_
      refine lv_iload_n hx hb dX7_isHeard_36 rfl (lv_at hl 4 rfl) ?_
      refine kc_i (kr_V (As := [.int (nI i), .int k]) (rest := [.int (nI i), .ref (md 0)]) hx hb hml hown hG (c_X7_phaseIn l D cy md N co su i hi k) cf_X7_phaseIn wM_X7_70 hw.o rfl hw ⟨rfl, rfl, by decide, by decide⟩ rfl rfl (Nat.le_of_ble_eq_true rfl) ⟨Nat.le_of_ble_eq_true rfl, Nat.le_of_ble_eq_true rfl⟩ dX7_isHeard_37) ?_
      refine kc_i (kr_V (As := [.int (nI i), .int (mPh (N (10 + i)) k)]) (rest := []) hx hb hml hown hG (c_X7_xAt l D cy md N co su i hi (mPh (N (10 + i)) k)) cf_X7_xAt wM_X7_76 hw.o rfl hw ⟨rfl, rfl, by decide, by decide⟩ rfl rfl (Nat.le_of_ble_eq_true rfl) ⟨Nat.le_of_ble_eq_true rfl, Nat.le_of_ble_eq_true rfl⟩ dX7_isHeard_40) ?_
      refine lv_aload_n hx hb dX7_isHeard_43 rfl (lv_at hl 1 rfl) ?_
      refine k_get (ci := 7) (C := RX7) (T := TX7) (N := 20) (v := .ref (md 3)) hx hb hown hG rfl kin_X7 hw.o 5 (by decide) wF_X7_17 rfl dX7_isHeard_44 ?_
      refine lv_iload_n hx hb dX7_isHeard_47 rfl (lv_at hl 3 rfl) ?_
      refine k_ald2 (v := (md (30 + j))) hx hb hG 5 rfl hw.a3 (vp_in_nI (n := j) hj (by decide)) (mo_sn hj) dX7_isHeard_48 ?_
      refine lv_iconst (v := 0) hx hb dX7_isHeard_49 (by decide) ?_
      refine k_iald (v := ((N (30 + j)) 0)) hx hb hG (hw.sn hj) (show vp_in (nI 0) 2 from vp_in_nI (by decide) (by decide)) (congrArg (N (30 + j)) (clI 0 (by decide))) dX7_isHeard_50 ?_
      refine lv_isub hx hb dX7_isHeard_51 ?_
      refine k_mabs hx hb hml hown hG wM_X7_61 (Nat.le_of_ble_eq_true rfl) (Nat.le_of_ble_eq_true rfl) (Nat.le_of_ble_eq_true rfl) (Nat.le_of_ble_eq_true rfl) dX7_isHeard_52 ?_
      refine lv_iconst (v := 2) hx hb dX7_isHeard_55 (by decide) ?_
      refine lv_iload hx hb dX7_isHeard_56 (lv_at hl 0 rfl) ?_
      refine lv_imul hx hb dX7_isHeard_58 ?_
      refine lv_icmp_gt (tgt := 66) hx hb dX7_isHeard_59 (by decide) (fun c_59 => ?_) (fun c_59 => ?_)
      · refine lv_iconst (v := 0) hx hb dX7_isHeard_66 (by decide) ?_
        exact ke_z hx hb hr hlk dX7_isHeard_67 (by first | rfl | (try delta mHear; simp only [if_pos c_22, if_neg c_29, if_pos c_59, bI_true, bI_false]))
      · refine lv_iconst (v := 1) hx hb dX7_isHeard_62 (by decide) ?_
        refine lv_goto (tgt := 67) hx hb dX7_isHeard_63 (by decide) ?_
        exact ke_z hx hb hr hlk dX7_isHeard_67 (by first | rfl | (try delta mHear; simp only [if_pos c_22, if_neg c_29, if_neg c_59, bI_true, bI_false]))
set_option maxHeartbeats 4000000 in
set_option maxRecDepth 100000 in
theorem c_X7_sees (l : Launch) (D : va_G) (cy : Nat → ClassId) (md : Nat → Nat) (N : Nat → Nat → Int32) (co su : Int64) (i j : Nat) (hi : i < 3) (hj : j < 8) (k : Int32) : Met l yX7_sees [.code yX7_sees cX7_sees 7 (some .boolean)] ({ frames := 3, cells := 0, slots := 0, locals := 65 } : Room) (PC D cy [.ref (md 0), .int (nI i), .int (nI j), .int k] (fun H => MW D cy md N co su H)) (RQi (bI (mSees (N (40 + i)) (N (10 + j)) k))) 0 0 (fun _ => False) := by
  refine k_body (by decide +kernel) (Nat.le_of_ble_eq_true rfl) ?_
  intro p e s m below meth c ls hx hb hml hown hr hlk hmn hl hG hI
  have hml9 : c.maxLocals = 7 := hml.trans hl.1
  have hl : lv_has ls 7 [(0, .ref (md 0)), (1, .int (nI i)), (2, .int (nI j)), (3, .int k)] := hl
  have hw := hI
  refine lv_aload_n hx hb dX7_sees_0 rfl (lv_at hl 0 rfl) ?_
  refine k_get (ci := 7) (C := RX7) (T := TX7) (N := 20) (v := .ref (md 4)) hx hb hown hG rfl kin_X7 hw.o 6 (by decide) wF_X7_20 rfl dX7_sees_1 ?_
  refine lv_iload_n hx hb dX7_sees_4 rfl (lv_at hl 1 rfl) ?_
  refine k_ald2 (v := (md (40 + i))) hx hb hG 5 rfl hw.a4 (vp_in_nI (n := i) hi (by decide)) (mo_rc hi) dX7_sees_5 ?_
  refine lv_astore (lv' := [(4, .ref (md (40 + i))), (0, .ref (md 0)), (1, .int (nI i)), (2, .int (nI j)), (3, .int k)]) hx hb dX7_sees_6 hl (by decide) rfl (fun ls hl => ?_)
  have hml : c.maxLocals = ls.size := hml9.trans hl.1.symm
  refine lv_aload_n hx hb dX7_sees_8 rfl (lv_at hl 1 rfl) ?_
  refine lv_iload_n hx hb dX7_sees_9 rfl (lv_at hl 3 rfl) ?_
  refine lv_iload_n hx hb dX7_sees_10 rfl (lv_at hl 4 rfl) ?_
  refine kc_i (kr_V (As := [.int (nI j), .int k]) (rest := []) hx hb hml hown hG (c_X7_phaseIn l D cy md N co su j hj k) cf_X7_phaseIn wM_X7_70 hw.o rfl hw ⟨rfl, rfl, by decide, by decide⟩ rfl rfl (Nat.le_of_ble_eq_true rfl) ⟨Nat.le_of_ble_eq_true rfl, Nat.le_of_ble_eq_true rfl⟩ dX7_sees_11) ?_
  refine lv_istore (lv' := [(5, .int (mPh (N (10 + j)) k)), (4, .ref (md (40 + i))), (0, .ref (md 0)), (1, .int (nI i)), (2, .int (nI j)), (3, .int k)]) hx hb dX7_sees_14 hl (by decide) rfl (fun ls hl => ?_)
  have hml : c.maxLocals = ls.size := hml9.trans hl.1.symm
  refine lv_aload_n hx hb dX7_sees_16 rfl (lv_at hl 2 rfl) ?_
  refine lv_iload_n hx hb dX7_sees_17 rfl (lv_at hl 4 rfl) ?_
  refine lv_iload hx hb dX7_sees_18 (lv_at hl 0 rfl) ?_
  refine kc_i (kr_V (As := [.int (nI j), .int (mPh (N (10 + j)) k)]) (rest := []) hx hb hml hown hG (c_X7_xAt l D cy md N co su j hj (mPh (N (10 + j)) k)) cf_X7_xAt wM_X7_76 hw.o rfl hw ⟨rfl, rfl, by decide, by decide⟩ rfl rfl (Nat.le_of_ble_eq_true rfl) ⟨Nat.le_of_ble_eq_true rfl, Nat.le_of_ble_eq_true rfl⟩ dX7_sees_20) ?_
  refine lv_aload hx hb dX7_sees_23 (lv_at hl 1 rfl) ?_
  refine lv_iconst (v := 0) hx hb dX7_sees_25 (by decide) ?_
  refine k_iald (v := ((N (40 + i)) 0)) hx hb hG (hw.rc hi) (show vp_in (nI 0) 22 from vp_in_nI (by decide) (by decide)) (congrArg (N (40 + i)) (clI 0 (by decide))) dX7_sees_26 ?_
  refine lv_icmp_ge (tgt := 37) hx hb dX7_sees_27 (by decide) (fun c_27 => ?_) (fun c_27 => ?_)
  · refine lv_aload hx hb dX7_sees_37 (lv_at hl 1 rfl) ?_
    refine lv_iconst (v := 4) hx hb dX7_sees_39 (by decide) ?_
    refine k_iald (v := ((N (40 + i)) 4)) hx hb hG (hw.rc hi) (show vp_in (nI 4) 22 from vp_in_nI (by decide) (by decide)) (congrArg (N (40 + i)) (clI 4 (by decide))) dX7_sees_40 ?_
    refine lv_istore (lv' := [(6, .int ((N (40 + i)) 4)), (5, .int (mPh (N (10 + j)) k)), (4, .ref (md (40 + i))), (0, .ref (md 0)), (1, .int (nI i)), (2, .int (nI j)), (3, .int k)]) hx hb dX7_sees_41 hl (by decide) rfl (fun ls hl => ?_)
    have hml : c.maxLocals = ls.size := hml9.trans hl.1.symm
    refine lv_aload_n hx hb dX7_sees_43 rfl (lv_at hl 3 rfl) ?_
    refine k_get (ci := 7) (C := RX7) (T := TX7) (N := 20) (v := .ref (md 1)) hx hb hown hG rfl kin_X7 hw.o 3 (by decide) wF_X7_11 rfl dX7_sees_44 ?_
    refine lv_iload_n hx hb dX7_sees_47 rfl (lv_at hl 5 rfl) ?_
    refine k_ald2 (v := (md (10 + j))) hx hb hG 5 rfl hw.a1 (vp_in_nI (n := j) hj (by decide)) (mo_st hj) dX7_sees_48 ?_
    refine lv_iconst (v := 5) hx hb dX7_sees_49 (by decide) ?_
    refine k_iald (v := ((N (10 + j)) 5)) hx hb hG (hw.st hj) (show vp_in (nI 5) 6 from vp_in_nI (by decide) (by decide)) (congrArg (N (10 + j)) (clI 5 (by decide))) dX7_sees_50 ?_
    refine lv_iconst (v := 1) hx hb dX7_sees_51 (by decide) ?_
    refine lv_icmp_ne (tgt := 76) hx hb dX7_sees_52 (by decide) (fun c_52 => ?_) (fun c_52 => ?_)
    · refine lv_iconst (v := 0) hx hb dX7_sees_76 (by decide) ?_
      exact ke_z hx hb hr hlk dX7_sees_77 (by first | rfl | (try delta mSees; simp only [if_pos c_27, if_neg c_52, bI_true, bI_false]))
    · refine lv_aload_n hx hb dX7_sees_55 rfl (lv_at hl 3 rfl) ?_
      refine lv_iload_n hx hb dX7_sees_56 rfl (lv_at hl 5 rfl) ?_
      refine lv_iload hx hb dX7_sees_57 (lv_at hl 1 rfl) ?_
      refine kc_i (kr_V (As := [.int (nI j), .int (mPh (N (10 + j)) k)]) (rest := []) hx hb hml hown hG (c_X7_yAt l D cy md N co su j hj (mPh (N (10 + j)) k)) cf_X7_yAt wM_X7_73 hw.o rfl hw ⟨rfl, rfl, by decide, by decide⟩ rfl rfl (Nat.le_of_ble_eq_true rfl) ⟨Nat.le_of_ble_eq_true rfl, Nat.le_of_ble_eq_true rfl⟩ dX7_sees_59) ?_
      refine lv_aload hx hb dX7_sees_62 (lv_at hl 2 rfl) ?_
      refine lv_iconst (v := 1) hx hb dX7_sees_64 (by decide) ?_
      refine k_iald (v := ((N (40 + i)) 1)) hx hb hG (hw.rc hi) (show vp_in (nI 1) 22 from vp_in_nI (by decide) (by decide)) (congrArg (N (40 + i)) (clI 1 (by decide))) dX7_sees_65 ?_
      refine lv_isub hx hb dX7_sees_66 ?_
      refine lv_iload hx hb dX7_sees_67 (lv_at hl 0 rfl) ?_
      refine lv_icmp_lt (tgt := 76) hx hb dX7_sees_69 (by decide) (fun c_69 => ?_) (fun c_69 => ?_)
      · refine lv_iconst (v := 0) hx hb dX7_sees_76 (by decide) ?_
        exact ke_z hx hb hr hlk dX7_sees_77 (by first | rfl | (try delta mSees; simp only [if_pos c_27, if_pos c_52, if_pos c_69, bI_true, bI_false]))
      · refine lv_iconst (v := 1) hx hb dX7_sees_72 (by decide) ?_
        refine lv_goto (tgt := 77) hx hb dX7_sees_73 (by decide) ?_
        exact ke_z hx hb hr hlk dX7_sees_77 (by first | rfl | (try delta mSees; simp only [if_pos c_27, if_pos c_52, if_neg c_69, bI_true, bI_false]))
  · refine lv_aload hx hb dX7_sees_30 (lv_at hl 1 rfl) ?_
    refine lv_iconst (v := 3) hx hb dX7_sees_32 (by decide) ?_
    refine k_iald (v := ((N (40 + i)) 3)) hx hb hG (hw.rc hi) (show vp_in (nI 3) 22 from vp_in_nI (by decide) (by decide)) (congrArg (N (40 + i)) (clI 3 (by decide))) dX7_sees_33 ?_
    refine lv_goto (tgt := 41) hx hb dX7_sees_34 (by decide) ?_
    refine lv_istore (lv' := [(6, .int ((N (40 + i)) 3)), (5, .int (mPh (N (10 + j)) k)), (4, .ref (md (40 + i))), (0, .ref (md 0)), (1, .int (nI i)), (2, .int (nI j)), (3, .int k)]) hx hb dX7_sees_41 hl (by decide) rfl (fun ls hl => ?_)
    have hml : c.maxLocals = ls.size := hml9.trans hl.1.symm
    refine lv_aload_n hx hb dX7_sees_43 rfl (lv_at hl 3 rfl) ?_
    refine k_get (ci := 7) (C := RX7) (T := TX7) (N := 20) (v := .ref (md 1)) hx hb hown hG rfl kin_X7 hw.o 3 (by decide) wF_X7_11 rfl dX7_sees_44 ?_
    refine lv_iload_n hx hb dX7_sees_47 rfl (lv_at hl 5 rfl) ?_
    refine k_ald2 (v := (md (10 + j))) hx hb hG 5 rfl hw.a1 (vp_in_nI (n := j) hj (by decide)) (mo_st hj) dX7_sees_48 ?_
    refine lv_iconst (v := 5) hx hb dX7_sees_49 (by decide) ?_
    refine k_iald (v := ((N (10 + j)) 5)) hx hb hG (hw.st hj) (show vp_in (nI 5) 6 from vp_in_nI (by decide) (by decide)) (congrArg (N (10 + j)) (clI 5 (by decide))) dX7_sees_50 ?_
    refine lv_iconst (v := 1) hx hb dX7_sees_51 (by decide) ?_
    refine lv_icmp_ne (tgt := 76) hx hb dX7_sees_52 (by decide) (fun c_52 => ?_) (fun c_52 => ?_)
    · refine lv_iconst (v := 0) hx hb dX7_sees_76 (by decide) ?_
      exact ke_z hx hb hr hlk dX7_sees_77 (by first | rfl | (try delta mSees; simp only [if_neg c_27, if_neg c_52, bI_true, bI_false]))
    · refine lv_aload_n hx hb dX7_sees_55 rfl (lv_at hl 3 rfl) ?_
      refine lv_iload_n hx hb dX7_sees_56 rfl (lv_at hl 5 rfl) ?_
      refine lv_iload hx hb dX7_sees_57 (lv_at hl 1 rfl) ?_
      refine kc_i (kr_V (As := [.int (nI j), .int (mPh (N (10 + j)) k)]) (rest := []) hx hb hml hown hG (c_X7_yAt l D cy md N co su j hj (mPh (N (10 + j)) k)) cf_X7_yAt wM_X7_73 hw.o rfl hw ⟨rfl, rfl, by decide, by decide⟩ rfl rfl (Nat.le_of_ble_eq_true rfl) ⟨Nat.le_of_ble_eq_true rfl, Nat.le_of_ble_eq_true rfl⟩ dX7_sees_59) ?_
      refine lv_aload hx hb dX7_sees_62 (lv_at hl 2 rfl) ?_
      refine lv_iconst (v := 1) hx hb dX7_sees_64 (by decide) ?_
      refine k_iald (v := ((N (40 + i)) 1)) hx hb hG (hw.rc hi) (show vp_in (nI 1) 22 from vp_in_nI (by decide) (by decide)) (congrArg (N (40 + i)) (clI 1 (by decide))) dX7_sees_65 ?_
      refine lv_isub hx hb dX7_sees_66 ?_
      refine lv_iload hx hb dX7_sees_67 (lv_at hl 0 rfl) ?_
      refine lv_icmp_lt (tgt := 76) hx hb dX7_sees_69 (by decide) (fun c_69 => ?_) (fun c_69 => ?_)
      · refine lv_iconst (v := 0) hx hb dX7_sees_76 (by decide) ?_
        exact ke_z hx hb hr hlk dX7_sees_77 (by first | rfl | (try delta mSees; simp only [if_neg c_27, if_pos c_52, if_pos c_69, bI_true, bI_false]))
      · refine lv_iconst (v := 1) hx hb dX7_sees_72 (by decide) ?_
        refine lv_goto (tgt := 77) hx hb dX7_sees_73 (by decide) ?_
        exact ke_z hx hb hr hlk dX7_sees_77 (by first | rfl | (try delta mSees; simp only [if_neg c_27, if_pos c_52, if_neg c_69, bI_true, bI_false]))
set_option maxHeartbeats 4000000 in
set_option maxRecDepth 100000 in
theorem c_X7_setSeen (l : Launch) (D : va_G) (cy : Nat → ClassId) (md : Nat → Nat) (N : Nat → Nat → Int32) (co su : Int64) (ns : Nat) (hns8 : ns ≤ 8) (ens : N 0 8 = nI ns) (i : Nat) (hi : i < 3) (k : Int32) : Met l yX7_setSeen [.code yX7_setSeen cX7_setSeen 5 (some .int)] ({ frames := 4, cells := 0, slots := 0, locals := 91 } : Room) (PC D cy [.ref (md 0), .int (nI i), .int k] (fun H => MW D cy md N co su H)) (RQi (mSet (N (40 + i)) N k ns)) 0 0 (fun _ => False) := by
  refine k_body (by decide +kernel) (Nat.le_of_ble_eq_true rfl) ?_
  intro p e s m below meth c ls hx hb hml hown hr hlk hmn hl hG hI
  have hml9 : c.maxLocals = 5 := hml.trans hl.1
  have hl : lv_has ls 5 [(0, .ref (md 0)), (1, .int (nI i)), (2, .int k)] := hl
  have hw := hI
  refine lv_iconst (v := 0) hx hb dX7_setSeen_0 (by decide) ?_
  refine lv_istore_n (lv' := [(3, .int 0), (0, .ref (md 0)), (1, .int (nI i)), (2, .int k)]) hx hb dX7_setSeen_1 rfl hl (by decide) rfl (fun ls hl => ?_)
  have hml : c.maxLocals = ls.size := hml9.trans hl.1.symm
  refine lv_iconst (v := 0) hx hb dX7_setSeen_2 (by decide) ?_
  refine lv_istore (lv' := [(4, .int 0), (3, .int 0), (0, .ref (md 0)), (1, .int (nI i)), (2, .int k)]) hx hb dX7_setSeen_3 hl (by decide) rfl (fun ls hl => ?_)
  have hml : c.maxLocals = ls.size := hml9.trans hl.1.symm
  have lp5_1 : ∀ (n9 : Nat) (j : Nat) (acc : Int32), ns + 1 - j ≤ n9 → j ≤ ns → acc = mSet (N (40 + i)) N k j →  ∀ ls : Array Slot, lv_has ls 5 [(4, .int (nI j)), (3, .int acc), (0, .ref (md 0)), (1, .int (nI i)), (2, .int k)] → W p l e ({ frames := 4, cells := 0, slots := 0, locals := 91 } : Room) s m ([.ref (md 0), .int (nI i), .int k] : List Value).toArray below meth c s.heap [] 0 0 (MQ below (RQi (mSet (N (40 + i)) N k ns)) ([.ref (md 0), .int (nI i), .int k] : List Value).toArray s 0 0 (fun _ => False)) (F0 m 5 ls []) := by
    intro n9
    induction n9 with
    | zero =>
      intro j acc h9
      intro hj; exact absurd h9 (by omega)
    | succ n9 ih9 =>
      intro j acc hn9 hj ea ls hl
      have hml : c.maxLocals = ls.size := hml9.trans hl.1.symm
      refine lv_iload hx hb dX7_setSeen_5 (lv_at hl 0 rfl) ?_
      refine lv_aload_n hx hb dX7_setSeen_7 rfl (lv_at hl 2 rfl) ?_
      refine k_get (ci := 7) (C := RX7) (T := TX7) (N := 20) (v := .int ((N 0) 8)) hx hb hown hG rfl kin_X7 hw.o 8 (by decide) wF_X7_79 rfl dX7_setSeen_8 ?_
      refine lv_icmp_ge (tgt := 42) hx hb dX7_setSeen_11 (by decide) (fun c_11 => ?_) (fun c_11 => ?_)
      · rw [ens] at c_11
        have enj : j = ns := Nat.le_antisymm hj ((nI_leI (by omega) (by omega)).mp c_11)
        refine lv_iload_n hx hb dX7_setSeen_42 rfl (lv_at hl 1 rfl) ?_
        exact ke_i hx hb hr hlk dX7_setSeen_43 (by rw [ea, enj])
      · rw [ens] at c_11
        have hltj : j < ns := by
          rcases Nat.lt_or_ge j ns with q | q
          · exact q
          · exact absurd (nI_le q (by omega)) c_11
        have hlt8j : j < 8 := Nat.lt_of_lt_of_le hltj hns8
        refine lv_iload_n hx hb dX7_setSeen_14 rfl (lv_at hl 1 rfl) ?_
        refine lv_aload_n hx hb dX7_setSeen_15 rfl (lv_at hl 2 rfl) ?_
        refine lv_iload_n hx hb dX7_setSeen_16 rfl (lv_at hl 3 rfl) ?_
        refine lv_iload hx hb dX7_setSeen_17 (lv_at hl 0 rfl) ?_
        refine lv_iload_n hx hb dX7_setSeen_19 rfl (lv_at hl 4 rfl) ?_
        refine kc_i (kr_V (As := [.int (nI i), .int (nI j), .int k]) (rest := [.int acc]) hx hb hml hown hG (c_X7_sees l D cy md N co su i j hi hlt8j k) cf_X7_sees wM_X7_82 hw.o rfl hw ⟨rfl, rfl, by decide, by decide⟩ rfl rfl (Nat.le_of_ble_eq_true rfl) ⟨Nat.le_of_ble_eq_true rfl, Nat.le_of_ble_eq_true rfl⟩ dX7_setSeen_20) ?_
        refine lv_if_eq (tgt := 33) hx hb dX7_setSeen_23 (by decide) (fun c_23 => ?_) (fun c_23 => ?_)
        · refine lv_iconst (v := 0) hx hb dX7_setSeen_33 (by decide) ?_
          refine lv_ior hx hb dX7_setSeen_34 ?_
          refine lv_istore_n (lv' := [(3, .int (acc ||| 0)), (4, .int (nI j)), (0, .ref (md 0)), (1, .int (nI i)), (2, .int k)]) hx hb dX7_setSeen_35 rfl hl (by decide) rfl (fun ls hl => ?_)
          have hml : c.maxLocals = ls.size := hml9.trans hl.1.symm
          refine lv_iinc (v := (nI (j + 1))) (lv' := [(4, .int (nI (j + 1))), (3, .int (acc ||| 0)), (0, .ref (md 0)), (1, .int (nI i)), (2, .int k)]) hx hb dX7_setSeen_36 hl (k := 1) rfl ((nI_succ j).symm) (by decide) rfl (fun ls hl => ?_)
          have hml : c.maxLocals = ls.size := hml9.trans hl.1.symm
          refine lv_goto (tgt := 5) hx hb dX7_setSeen_39 (by decide) ?_
          exact ih9 (j + 1) (acc ||| 0) (by omega) hltj (by rw [ea, mSet_s, if_pos c_23]) ls (lv_sub hl [0, 1, 2, 3, 4] rfl)
        · refine lv_iconst (v := 1) hx hb dX7_setSeen_26 (by decide) ?_
          refine lv_iload hx hb dX7_setSeen_27 (lv_at hl 0 rfl) ?_
          refine lv_ishl hx hb dX7_setSeen_29 ?_
          refine lv_goto (tgt := 34) hx hb dX7_setSeen_30 (by decide) ?_
          refine lv_ior hx hb dX7_setSeen_34 ?_
          refine lv_istore_n (lv' := [(3, .int (acc ||| (1 <<< ((nI j) &&& 31)))), (4, .int (nI j)), (0, .ref (md 0)), (1, .int (nI i)), (2, .int k)]) hx hb dX7_setSeen_35 rfl hl (by decide) rfl (fun ls hl => ?_)
          have hml : c.maxLocals = ls.size := hml9.trans hl.1.symm
          refine lv_iinc (v := (nI (j + 1))) (lv' := [(4, .int (nI (j + 1))), (3, .int (acc ||| (1 <<< ((nI j) &&& 31)))), (0, .ref (md 0)), (1, .int (nI i)), (2, .int k)]) hx hb dX7_setSeen_36 hl (k := 1) rfl ((nI_succ j).symm) (by decide) rfl (fun ls hl => ?_)
          have hml : c.maxLocals = ls.size := hml9.trans hl.1.symm
          refine lv_goto (tgt := 5) hx hb dX7_setSeen_39 (by decide) ?_
          exact ih9 (j + 1) (acc ||| (1 <<< ((nI j) &&& 31))) (by omega) hltj (by rw [ea, mSet_s, if_neg c_23]) ls (lv_sub hl [0, 1, 2, 3, 4] rfl)
  exact lp5_1 (ns + 1) 0 0 (Nat.le_refl _) (Nat.zero_le _) (by rw [mSet_0]) ls (lv_sub hl [0, 1, 2, 3, 4] rfl)
set_option maxHeartbeats 4000000 in
set_option maxRecDepth 100000 in
theorem c_X7_trueOf (l : Launch) (D : va_G) (cy : Nat → ClassId) (md : Nat → Nat) (N : Nat → Nat → Int32) (co su : Int64) (i j : Nat) (hi : i < 3) (hj : j < 8) : Met l yX7_trueOf [.code yX7_trueOf cX7_trueOf 6 (some .int)] ({ frames := 3, cells := 0, slots := 0, locals := 65 } : Room) (PC D cy [.ref (md 0), .int (nI i), .int (nI j)] (fun H => MW D cy md N co su H)) (RQi (mTrue (N (40 + i)) (N (10 + j)))) 0 0 (fun _ => False) := by
  refine k_body (by decide +kernel) (Nat.le_of_ble_eq_true rfl) ?_
  intro p e s m below meth c ls hx hb hml hown hr hlk hmn hl hG hI
  have hml9 : c.maxLocals = 6 := hml.trans hl.1
  have hl : lv_has ls 6 [(0, .ref (md 0)), (1, .int (nI i)), (2, .int (nI j))] := hl
  have hw := hI
  refine lv_aload_n hx hb dX7_trueOf_0 rfl (lv_at hl 0 rfl) ?_
  refine k_get (ci := 7) (C := RX7) (T := TX7) (N := 20) (v := .ref (md 4)) hx hb hown hG rfl kin_X7 hw.o 6 (by decide) wF_X7_20 rfl dX7_trueOf_1 ?_
  refine lv_iload_n hx hb dX7_trueOf_4 rfl (lv_at hl 1 rfl) ?_
  refine k_ald2 (v := (md (40 + i))) hx hb hG 5 rfl hw.a4 (vp_in_nI (n := i) hi (by decide)) (mo_rc hi) dX7_trueOf_5 ?_
  refine lv_astore_n (lv' := [(3, .ref (md (40 + i))), (0, .ref (md 0)), (1, .int (nI i)), (2, .int (nI j))]) hx hb dX7_trueOf_6 rfl hl (by decide) rfl (fun ls hl => ?_)
  have hml : c.maxLocals = ls.size := hml9.trans hl.1.symm
  refine lv_aload_n hx hb dX7_trueOf_7 rfl (lv_at hl 1 rfl) ?_
  refine lv_iload_n hx hb dX7_trueOf_8 rfl (lv_at hl 3 rfl) ?_
  refine lv_aload_n hx hb dX7_trueOf_9 rfl (lv_at hl 1 rfl) ?_
  refine k_get (ci := 7) (C := RX7) (T := TX7) (N := 20) (v := .ref (md 1)) hx hb hown hG rfl kin_X7 hw.o 3 (by decide) wF_X7_11 rfl dX7_trueOf_10 ?_
  refine lv_iload_n hx hb dX7_trueOf_13 rfl (lv_at hl 3 rfl) ?_
  refine k_ald2 (v := (md (10 + j))) hx hb hG 5 rfl hw.a1 (vp_in_nI (n := j) hj (by decide)) (mo_st hj) dX7_trueOf_14 ?_
  refine lv_iconst (v := 1) hx hb dX7_trueOf_15 (by decide) ?_
  refine k_iald (v := ((N (10 + j)) 1)) hx hb hG (hw.st hj) (show vp_in (nI 1) 6 from vp_in_nI (by decide) (by decide)) (congrArg (N (10 + j)) (clI 1 (by decide))) dX7_trueOf_16 ?_
  refine kc_i (kr_V (As := [.int (nI j), .int ((N (10 + j)) 1)]) (rest := []) hx hb hml hown hG (c_X7_xAt l D cy md N co su j hj ((N (10 + j)) 1)) cf_X7_xAt wM_X7_76 hw.o rfl hw ⟨rfl, rfl, by decide, by decide⟩ rfl rfl (Nat.le_of_ble_eq_true rfl) ⟨Nat.le_of_ble_eq_true rfl, Nat.le_of_ble_eq_true rfl⟩ dX7_trueOf_17) ?_
  refine lv_istore (lv' := [(4, .int (mX (N (10 + j)) ((N (10 + j)) 1))), (3, .ref (md (40 + i))), (0, .ref (md 0)), (1, .int (nI i)), (2, .int (nI j))]) hx hb dX7_trueOf_20 hl (by decide) rfl (fun ls hl => ?_)
  have hml : c.maxLocals = ls.size := hml9.trans hl.1.symm
  refine lv_aload_n hx hb dX7_trueOf_22 rfl (lv_at hl 1 rfl) ?_
  refine lv_iconst (v := 0) hx hb dX7_trueOf_23 (by decide) ?_
  refine k_iald (v := ((N (40 + i)) 0)) hx hb hG (hw.rc hi) (show vp_in (nI 0) 22 from vp_in_nI (by decide) (by decide)) (congrArg (N (40 + i)) (clI 0 (by decide))) dX7_trueOf_24 ?_
  refine lv_aload_n hx hb dX7_trueOf_25 rfl (lv_at hl 1 rfl) ?_
  refine lv_iconst (v := 1) hx hb dX7_trueOf_26 (by decide) ?_
  refine k_iald (v := ((N (40 + i)) 1)) hx hb hG (hw.rc hi) (show vp_in (nI 1) 22 from vp_in_nI (by decide) (by decide)) (congrArg (N (40 + i)) (clI 1 (by decide))) dX7_trueOf_27 ?_
  refine lv_iload hx hb dX7_trueOf_28 (lv_at hl 0 rfl) ?_
  refine lv_aload_n hx hb dX7_trueOf_30 rfl (lv_at hl 2 rfl) ?_
  refine lv_iload_n hx hb dX7_trueOf_31 rfl (lv_at hl 4 rfl) ?_
  refine lv_aload_n hx hb dX7_trueOf_32 rfl (lv_at hl 2 rfl) ?_
  refine k_get (ci := 7) (C := RX7) (T := TX7) (N := 20) (v := .ref (md 1)) hx hb hown hG rfl kin_X7 hw.o 3 (by decide) wF_X7_11 rfl dX7_trueOf_33 ?_
  refine lv_iload_n hx hb dX7_trueOf_36 rfl (lv_at hl 4 rfl) ?_
  refine k_ald2 (v := (md (10 + j))) hx hb hG 5 rfl hw.a1 (vp_in_nI (n := j) hj (by decide)) (mo_st hj) dX7_trueOf_37 ?_
  refine lv_iconst (v := 1) hx hb dX7_trueOf_38 (by decide) ?_
  refine k_iald (v := ((N (10 + j)) 1)) hx hb hG (hw.st hj) (show vp_in (nI 1) 6 from vp_in_nI (by decide) (by decide)) (congrArg (N (10 + j)) (clI 1 (by decide))) dX7_trueOf_39 ?_
  refine kc_i (kr_V (As := [.int (nI j), .int ((N (10 + j)) 1)]) (rest := [.int (mX (N (10 + j)) ((N (10 + j)) 1)), .int ((N (40 + i)) 1), .int ((N (40 + i)) 0)]) hx hb hml hown hG (c_X7_yAt l D cy md N co su j hj ((N (10 + j)) 1)) cf_X7_yAt wM_X7_73 hw.o rfl hw ⟨rfl, rfl, by decide, by decide⟩ rfl rfl (Nat.le_of_ble_eq_true rfl) ⟨Nat.le_of_ble_eq_true rfl, Nat.le_of_ble_eq_true rfl⟩ dX7_trueOf_40) ?_
  refine kc_i (kr_S (As := [.int ((N (40 + i)) 0), .int ((N (40 + i)) 1), .int (mX (N (10 + j)) ((N (10 + j)) 1)), .int (mY (N (10 + j)) ((N (10 + j)) 1))]) (rest := []) hx hb hml hown hG (c_X7_range l D cy ((N (40 + i)) 0) ((N (40 + i)) 1) (mX (N (10 + j)) ((N (10 + j)) 1)) (mY (N (10 + j)) ((N (10 + j)) 1))) cf_X7_range wM_X7_118 trivial ⟨rfl, rfl, by decide, by decide⟩ rfl rfl (Nat.le_of_ble_eq_true rfl) ⟨Nat.le_of_ble_eq_true rfl, Nat.le_of_ble_eq_true rfl⟩ dX7_trueOf_43) ?_
  refine lv_istore (lv' := [(5, .int (pRange ((N (40 + i)) 0) ((N (40 + i)) 1) (mX (N (10 + j)) ((N (10 + j)) 1)) (mY (N (10 + j)) ((N (10 + j)) 1)))), (4, .int (mX (N (10 + j)) ((N (10 + j)) 1))), (3, .ref (md (40 + i))), (0, .ref (md 0)), (1, .int (nI i)), (2, .int (nI j))]) hx hb dX7_trueOf_46 hl (by decide) rfl (fun ls hl => ?_)
  have hml : c.maxLocals = ls.size := hml9.trans hl.1.symm
  refine lv_iload hx hb dX7_trueOf_48 (lv_at hl 0 rfl) ?_
  refine lv_aload_n hx hb dX7_trueOf_50 rfl (lv_at hl 3 rfl) ?_
  refine k_get (ci := 7) (C := RX7) (T := TX7) (N := 20) (v := .ref (md 1)) hx hb hown hG rfl kin_X7 hw.o 3 (by decide) wF_X7_11 rfl dX7_trueOf_51 ?_
  refine lv_iload_n hx hb dX7_trueOf_54 rfl (lv_at hl 5 rfl) ?_
  refine k_ald2 (v := (md (10 + j))) hx hb hG 5 rfl hw.a1 (vp_in_nI (n := j) hj (by decide)) (mo_st hj) dX7_trueOf_55 ?_
  refine lv_iconst (v := 3) hx hb dX7_trueOf_56 (by decide) ?_
  refine k_iald (v := ((N (10 + j)) 3)) hx hb hG (hw.st hj) (show vp_in (nI 3) 6 from vp_in_nI (by decide) (by decide)) (congrArg (N (10 + j)) (clI 3 (by decide))) dX7_trueOf_57 ?_
  refine lv_iadd hx hb dX7_trueOf_58 ?_
  refine lv_aload_n hx hb dX7_trueOf_59 rfl (lv_at hl 2 rfl) ?_
  refine lv_iconst (v := 2) hx hb dX7_trueOf_60 (by decide) ?_
  refine k_iald (v := ((N (40 + i)) 2)) hx hb hG (hw.rc hi) (show vp_in (nI 2) 22 from vp_in_nI (by decide) (by decide)) (congrArg (N (40 + i)) (clI 2 (by decide))) dX7_trueOf_61 ?_
  refine lv_iadd hx hb dX7_trueOf_62 ?_
  refine lv_iload hx hb dX7_trueOf_63 (lv_at hl 1 rfl) ?_
  refine lv_aload_n hx hb dX7_trueOf_65 rfl (lv_at hl 2 rfl) ?_
  refine lv_iconst (v := 0) hx hb dX7_trueOf_66 (by decide) ?_
  refine k_iald (v := ((N (40 + i)) 0)) hx hb hG (hw.rc hi) (show vp_in (nI 0) 22 from vp_in_nI (by decide) (by decide)) (congrArg (N (40 + i)) (clI 0 (by decide))) dX7_trueOf_67 ?_
  refine lv_icmp_ge (tgt := 78) hx hb dX7_trueOf_68 (by decide) (fun c_68 => ?_) (fun c_68 => ?_)
  · refine lv_aload_n hx hb dX7_trueOf_78 rfl (lv_at hl 2 rfl) ?_
    refine lv_bipush (v := 8) hx hb dX7_trueOf_79 (by decide) ?_
    refine k_iald (v := ((N (40 + i)) 8)) hx hb hG (hw.rc hi) (show vp_in (nI 8) 22 from vp_in_nI (by decide) (by decide)) (congrArg (N (40 + i)) (clI 8 (by decide))) dX7_trueOf_81 ?_
    refine lv_ineg hx hb dX7_trueOf_82 ?_
    refine lv_iadd hx hb dX7_trueOf_83 ?_
    exact ke_i hx hb hr hlk dX7_trueOf_84 (by first | rfl | (try delta mTrue; simp only [if_pos c_68, bI_true, bI_false]))
  · refine lv_aload_n hx hb dX7_trueOf_71 rfl (lv_at hl 2 rfl) ?_
    refine lv_bipush (v := 8) hx hb dX7_trueOf_72 (by decide) ?_
    refine k_iald (v := ((N (40 + i)) 8)) hx hb hG (hw.rc hi) (show vp_in (nI 8) 22 from vp_in_nI (by decide) (by decide)) (congrArg (N (40 + i)) (clI 8 (by decide))) dX7_trueOf_74 ?_
    refine lv_goto (tgt := 83) hx hb dX7_trueOf_75 (by decide) ?_
    refine lv_iadd hx hb dX7_trueOf_83 ?_
    exact ke_i hx hb hr hlk dX7_trueOf_84 (by first | rfl | (try delta mTrue; simp only [if_neg c_68, bI_true, bI_false]))
set_option maxHeartbeats 4000000 in
set_option maxRecDepth 100000 in
theorem c_X7_codeOf (l : Launch) (D : va_G) (cy : Nat → ClassId) (md : Nat → Nat) (N : Nat → Nat → Int32) (co su : Int64) (i j : Nat) (hi : i < 3) (hj : j < 8) : Met l yX7_codeOf [.code yX7_codeOf cX7_codeOf 7 (some .int)] ({ frames := 4, cells := 0, slots := 0, locals := 90 } : Room) (PC D cy [.ref (md 0), .int (nI i), .int (nI j)] (fun H => MW D cy md N co su H)) (RQi (mCode (N 0 1) (N (40 + i)) (N (10 + j)) i j)) 0 0 (fun _ => False) := by
  refine k_body (by decide +kernel) (Nat.le_of_ble_eq_true rfl) ?_
  intro p e s m below meth c ls hx hb hml hown hr hlk hmn hl hG hI
  have hml9 : c.maxLocals = 7 := hml.trans hl.1
  have hl : lv_has ls 7 [(0, .ref (md 0)), (1, .int (nI i)), (2, .int (nI j))] := hl
  have hw := hI
  refine lv_aload_n hx hb dX7_codeOf_0 rfl (lv_at hl 0 rfl) ?_
  refine k_get (ci := 7) (C := RX7) (T := TX7) (N := 20) (v := .ref (md 4)) hx hb hown hG rfl kin_X7 hw.o 6 (by decide) wF_X7_20 rfl dX7_codeOf_1 ?_
  refine lv_iload_n hx hb dX7_codeOf_4 rfl (lv_at hl 1 rfl) ?_
  refine k_ald2 (v := (md (40 + i))) hx hb hG 5 rfl hw.a4 (vp_in_nI (n := i) hi (by decide)) (mo_rc hi) dX7_codeOf_5 ?_
  refine lv_astore_n (lv' := [(3, .ref (md (40 + i))), (0, .ref (md 0)), (1, .int (nI i)), (2, .int (nI j))]) hx hb dX7_codeOf_6 rfl hl (by decide) rfl (fun ls hl => ?_)
  have hml : c.maxLocals = ls.size := hml9.trans hl.1.symm
  refine lv_aload_n hx hb dX7_codeOf_7 rfl (lv_at hl 1 rfl) ?_
  refine lv_iload_n hx hb dX7_codeOf_8 rfl (lv_at hl 3 rfl) ?_
  refine lv_aload_n hx hb dX7_codeOf_9 rfl (lv_at hl 1 rfl) ?_
  refine k_get (ci := 7) (C := RX7) (T := TX7) (N := 20) (v := .ref (md 1)) hx hb hown hG rfl kin_X7 hw.o 3 (by decide) wF_X7_11 rfl dX7_codeOf_10 ?_
  refine lv_iload_n hx hb dX7_codeOf_13 rfl (lv_at hl 3 rfl) ?_
  refine k_ald2 (v := (md (10 + j))) hx hb hG 5 rfl hw.a1 (vp_in_nI (n := j) hj (by decide)) (mo_st hj) dX7_codeOf_14 ?_
  refine lv_iconst (v := 1) hx hb dX7_codeOf_15 (by decide) ?_
  refine k_iald (v := ((N (10 + j)) 1)) hx hb hG (hw.st hj) (show vp_in (nI 1) 6 from vp_in_nI (by decide) (by decide)) (congrArg (N (10 + j)) (clI 1 (by decide))) dX7_codeOf_16 ?_
  refine kc_i (kr_V (As := [.int (nI j), .int ((N (10 + j)) 1)]) (rest := []) hx hb hml hown hG (c_X7_xAt l D cy md N co su j hj ((N (10 + j)) 1)) cf_X7_xAt wM_X7_76 hw.o rfl hw ⟨rfl, rfl, by decide, by decide⟩ rfl rfl (Nat.le_of_ble_eq_true rfl) ⟨Nat.le_of_ble_eq_true rfl, Nat.le_of_ble_eq_true rfl⟩ dX7_codeOf_17) ?_
  refine lv_aload_n hx hb dX7_codeOf_20 rfl (lv_at hl 0 rfl) ?_
  refine lv_iconst (v := 0) hx hb dX7_codeOf_21 (by decide) ?_
  refine k_iald (v := ((N (40 + i)) 0)) hx hb hG (hw.rc hi) (show vp_in (nI 0) 22 from vp_in_nI (by decide) (by decide)) (congrArg (N (40 + i)) (clI 0 (by decide))) dX7_codeOf_22 ?_
  refine lv_isub hx hb dX7_codeOf_23 ?_
  refine k_mabs hx hb hml hown hG wM_X7_61 (Nat.le_of_ble_eq_true rfl) (Nat.le_of_ble_eq_true rfl) (Nat.le_of_ble_eq_true rfl) (Nat.le_of_ble_eq_true rfl) dX7_codeOf_24 ?_
  refine lv_istore (lv' := [(4, .int (pAbs ((mX (N (10 + j)) ((N (10 + j)) 1)) - ((N (40 + i)) 0)))), (3, .ref (md (40 + i))), (0, .ref (md 0)), (1, .int (nI i)), (2, .int (nI j))]) hx hb dX7_codeOf_27 hl (by decide) rfl (fun ls hl => ?_)
  have hml : c.maxLocals = ls.size := hml9.trans hl.1.symm
  refine lv_aload_n hx hb dX7_codeOf_29 rfl (lv_at hl 2 rfl) ?_
  refine lv_iload_n hx hb dX7_codeOf_30 rfl (lv_at hl 4 rfl) ?_
  refine lv_aload_n hx hb dX7_codeOf_31 rfl (lv_at hl 2 rfl) ?_
  refine k_get (ci := 7) (C := RX7) (T := TX7) (N := 20) (v := .ref (md 1)) hx hb hown hG rfl kin_X7 hw.o 3 (by decide) wF_X7_11 rfl dX7_codeOf_32 ?_
  refine lv_iload_n hx hb dX7_codeOf_35 rfl (lv_at hl 4 rfl) ?_
  refine k_ald2 (v := (md (10 + j))) hx hb hG 5 rfl hw.a1 (vp_in_nI (n := j) hj (by decide)) (mo_st hj) dX7_codeOf_36 ?_
  refine lv_iconst (v := 1) hx hb dX7_codeOf_37 (by decide) ?_
  refine k_iald (v := ((N (10 + j)) 1)) hx hb hG (hw.st hj) (show vp_in (nI 1) 6 from vp_in_nI (by decide) (by decide)) (congrArg (N (10 + j)) (clI 1 (by decide))) dX7_codeOf_38 ?_
  refine kc_i (kr_V (As := [.int (nI j), .int ((N (10 + j)) 1)]) (rest := []) hx hb hml hown hG (c_X7_yAt l D cy md N co su j hj ((N (10 + j)) 1)) cf_X7_yAt wM_X7_73 hw.o rfl hw ⟨rfl, rfl, by decide, by decide⟩ rfl rfl (Nat.le_of_ble_eq_true rfl) ⟨Nat.le_of_ble_eq_true rfl, Nat.le_of_ble_eq_true rfl⟩ dX7_codeOf_39) ?_
  refine lv_aload_n hx hb dX7_codeOf_42 rfl (lv_at hl 1 rfl) ?_
  refine lv_iconst (v := 1) hx hb dX7_codeOf_43 (by decide) ?_
  refine k_iald (v := ((N (40 + i)) 1)) hx hb hG (hw.rc hi) (show vp_in (nI 1) 22 from vp_in_nI (by decide) (by decide)) (congrArg (N (40 + i)) (clI 1 (by decide))) dX7_codeOf_44 ?_
  refine lv_isub hx hb dX7_codeOf_45 ?_
  refine k_mabs hx hb hml hown hG wM_X7_61 (Nat.le_of_ble_eq_true rfl) (Nat.le_of_ble_eq_true rfl) (Nat.le_of_ble_eq_true rfl) (Nat.le_of_ble_eq_true rfl) dX7_codeOf_46 ?_
  refine lv_istore (lv' := [(5, .int (pAbs ((mY (N (10 + j)) ((N (10 + j)) 1)) - ((N (40 + i)) 1)))), (4, .int (pAbs ((mX (N (10 + j)) ((N (10 + j)) 1)) - ((N (40 + i)) 0)))), (3, .ref (md (40 + i))), (0, .ref (md 0)), (1, .int (nI i)), (2, .int (nI j))]) hx hb dX7_codeOf_49 hl (by decide) rfl (fun ls hl => ?_)
  have hml : c.maxLocals = ls.size := hml9.trans hl.1.symm
  refine lv_aload_n hx hb dX7_codeOf_51 rfl (lv_at hl 2 rfl) ?_
  refine lv_bipush (v := 6) hx hb dX7_codeOf_52 (by decide) ?_
  refine k_iald (v := ((N (40 + i)) 6)) hx hb hG (hw.rc hi) (show vp_in (nI 6) 22 from vp_in_nI (by decide) (by decide)) (congrArg (N (40 + i)) (clI 6 (by decide))) dX7_codeOf_54 ?_
  refine lv_iconst (v := 1) hx hb dX7_codeOf_55 (by decide) ?_
  refine lv_icmp_ne (tgt := 63) hx hb dX7_codeOf_56 (by decide) (fun c_56 => ?_) (fun c_56 => ?_)
  · refine lv_iload hx hb dX7_codeOf_63 (lv_at hl 1 rfl) ?_
    refine lv_iload hx hb dX7_codeOf_65 (lv_at hl 0 rfl) ?_
    refine lv_icmp_le (tgt := 78) hx hb dX7_codeOf_67 (by decide) (fun c_67 => ?_) (fun c_67 => ?_)
    · refine lv_aload_n hx hb dX7_codeOf_78 rfl (lv_at hl 2 rfl) ?_
      refine lv_iconst (v := 5) hx hb dX7_codeOf_79 (by decide) ?_
      refine k_iald (v := ((N (40 + i)) 5)) hx hb hG (hw.rc hi) (show vp_in (nI 5) 22 from vp_in_nI (by decide) (by decide)) (congrArg (N (40 + i)) (clI 5 (by decide))) dX7_codeOf_80 ?_
      refine lv_istore (lv' := [(6, .int ((N (40 + i)) 5)), (5, .int (pAbs ((mY (N (10 + j)) ((N (10 + j)) 1)) - ((N (40 + i)) 1)))), (4, .int (pAbs ((mX (N (10 + j)) ((N (10 + j)) 1)) - ((N (40 + i)) 0)))), (3, .ref (md (40 + i))), (0, .ref (md 0)), (1, .int (nI i)), (2, .int (nI j))]) hx hb dX7_codeOf_81 hl (by decide) rfl (fun ls hl => ?_)
      have hml : c.maxLocals = ls.size := hml9.trans hl.1.symm
      refine lv_aload_n hx hb dX7_codeOf_83 rfl (lv_at hl 4 rfl) ?_
      refine lv_iload_n hx hb dX7_codeOf_84 rfl (lv_at hl 5 rfl) ?_
      refine lv_iload_n hx hb dX7_codeOf_85 rfl (lv_at hl 6 rfl) ?_
      refine kc_i (kr_V (As := [.int (nI i), .int (nI j)]) (rest := []) hx hb hml hown hG (c_X7_trueOf l D cy md N co su i j hi hj) cf_X7_trueOf wM_X7_134 hw.o rfl hw ⟨rfl, rfl, by decide, by decide⟩ rfl rfl (Nat.le_of_ble_eq_true rfl) ⟨Nat.le_of_ble_eq_true rfl, Nat.le_of_ble_eq_true rfl⟩ dX7_codeOf_86) ?_
      refine lv_iload hx hb dX7_codeOf_89 (lv_at hl 0 rfl) ?_
      refine lv_iadd hx hb dX7_codeOf_91 ?_
      refine lv_bipush (v := 7) hx hb dX7_codeOf_92 (by decide) ?_
      refine lv_aload_n hx hb dX7_codeOf_94 rfl (lv_at hl 4 rfl) ?_
      refine k_get (ci := 7) (C := RX7) (T := TX7) (N := 20) (v := .int ((N 0) 1)) hx hb hown hG rfl kin_X7 hw.o 1 (by decide) wF_X7_64 rfl dX7_codeOf_95 ?_
      refine lv_imul hx hb dX7_codeOf_98 ?_
      refine lv_iconst (v := 3) hx hb dX7_codeOf_99 (by decide) ?_
      refine lv_iload_n hx hb dX7_codeOf_100 rfl (lv_at hl 6 rfl) ?_
      refine lv_imul hx hb dX7_codeOf_101 ?_
      refine lv_iadd hx hb dX7_codeOf_102 ?_
      refine lv_iconst (v := 2) hx hb dX7_codeOf_103 (by decide) ?_
      refine lv_iload_n hx hb dX7_codeOf_104 rfl (lv_at hl 5 rfl) ?_
      refine lv_imul hx hb dX7_codeOf_105 ?_
      refine lv_iadd hx hb dX7_codeOf_106 ?_
      refine lv_iconst (v := 5) hx hb dX7_codeOf_107 (by decide) ?_
      refine kc_i (kr_S (As := [.int (((7 * ((N 0) 1)) + (3 * (nI j))) + (2 * (nI i))), .int 5]) (rest := [.int ((mTrue (N (40 + i)) (N (10 + j))) + ((N (40 + i)) 5))]) hx hb hml hown hG (c_J9_floorMod_7cf53 l D cy (((7 * ((N 0) 1)) + (3 * (nI j))) + (2 * (nI i))) 5 (by decide)) cf_J9_floorMod_7cf53 wM_X7_54 trivial ⟨rfl, rfl, by decide, by decide⟩ rfl rfl (Nat.le_of_ble_eq_true rfl) ⟨Nat.le_of_ble_eq_true rfl, Nat.le_of_ble_eq_true rfl⟩ dX7_codeOf_108) ?_
      refine lv_iadd hx hb dX7_codeOf_111 ?_
      refine lv_iconst (v := 2) hx hb dX7_codeOf_112 (by decide) ?_
      refine lv_isub hx hb dX7_codeOf_113 ?_
      exact ke_i hx hb hr hlk dX7_codeOf_114 (by first | rfl | (try delta mCode; try delta mDelay; simp only [if_neg c_56, if_pos c_67, bI_true, bI_false]))
    · refine lv_iconst (v := 2) hx hb dX7_codeOf_70 (by decide) ?_
      refine lv_aload_n hx hb dX7_codeOf_71 rfl (lv_at hl 2 rfl) ?_
      refine lv_iconst (v := 5) hx hb dX7_codeOf_72 (by decide) ?_
      refine k_iald (v := ((N (40 + i)) 5)) hx hb hG (hw.rc hi) (show vp_in (nI 5) 22 from vp_in_nI (by decide) (by decide)) (congrArg (N (40 + i)) (clI 5 (by decide))) dX7_codeOf_73 ?_
      refine lv_imul hx hb dX7_codeOf_74 ?_
      refine lv_goto (tgt := 81) hx hb dX7_codeOf_75 (by decide) ?_
      refine lv_istore (lv' := [(6, .int (2 * ((N (40 + i)) 5))), (5, .int (pAbs ((mY (N (10 + j)) ((N (10 + j)) 1)) - ((N (40 + i)) 1)))), (4, .int (pAbs ((mX (N (10 + j)) ((N (10 + j)) 1)) - ((N (40 + i)) 0)))), (3, .ref (md (40 + i))), (0, .ref (md 0)), (1, .int (nI i)), (2, .int (nI j))]) hx hb dX7_codeOf_81 hl (by decide) rfl (fun ls hl => ?_)
      have hml : c.maxLocals = ls.size := hml9.trans hl.1.symm
      refine lv_aload_n hx hb dX7_codeOf_83 rfl (lv_at hl 4 rfl) ?_
      refine lv_iload_n hx hb dX7_codeOf_84 rfl (lv_at hl 5 rfl) ?_
      refine lv_iload_n hx hb dX7_codeOf_85 rfl (lv_at hl 6 rfl) ?_
      refine kc_i (kr_V (As := [.int (nI i), .int (nI j)]) (rest := []) hx hb hml hown hG (c_X7_trueOf l D cy md N co su i j hi hj) cf_X7_trueOf wM_X7_134 hw.o rfl hw ⟨rfl, rfl, by decide, by decide⟩ rfl rfl (Nat.le_of_ble_eq_true rfl) ⟨Nat.le_of_ble_eq_true rfl, Nat.le_of_ble_eq_true rfl⟩ dX7_codeOf_86) ?_
      refine lv_iload hx hb dX7_codeOf_89 (lv_at hl 0 rfl) ?_
      refine lv_iadd hx hb dX7_codeOf_91 ?_
      refine lv_bipush (v := 7) hx hb dX7_codeOf_92 (by decide) ?_
      refine lv_aload_n hx hb dX7_codeOf_94 rfl (lv_at hl 4 rfl) ?_
      refine k_get (ci := 7) (C := RX7) (T := TX7) (N := 20) (v := .int ((N 0) 1)) hx hb hown hG rfl kin_X7 hw.o 1 (by decide) wF_X7_64 rfl dX7_codeOf_95 ?_
      refine lv_imul hx hb dX7_codeOf_98 ?_
      refine lv_iconst (v := 3) hx hb dX7_codeOf_99 (by decide) ?_
      refine lv_iload_n hx hb dX7_codeOf_100 rfl (lv_at hl 6 rfl) ?_
      refine lv_imul hx hb dX7_codeOf_101 ?_
      refine lv_iadd hx hb dX7_codeOf_102 ?_
      refine lv_iconst (v := 2) hx hb dX7_codeOf_103 (by decide) ?_
      refine lv_iload_n hx hb dX7_codeOf_104 rfl (lv_at hl 5 rfl) ?_
      refine lv_imul hx hb dX7_codeOf_105 ?_
      refine lv_iadd hx hb dX7_codeOf_106 ?_
      refine lv_iconst (v := 5) hx hb dX7_codeOf_107 (by decide) ?_
      refine kc_i (kr_S (As := [.int (((7 * ((N 0) 1)) + (3 * (nI j))) + (2 * (nI i))), .int 5]) (rest := [.int ((mTrue (N (40 + i)) (N (10 + j))) + (2 * ((N (40 + i)) 5)))]) hx hb hml hown hG (c_J9_floorMod_7cf53 l D cy (((7 * ((N 0) 1)) + (3 * (nI j))) + (2 * (nI i))) 5 (by decide)) cf_J9_floorMod_7cf53 wM_X7_54 trivial ⟨rfl, rfl, by decide, by decide⟩ rfl rfl (Nat.le_of_ble_eq_true rfl) ⟨Nat.le_of_ble_eq_true rfl, Nat.le_of_ble_eq_true rfl⟩ dX7_codeOf_108) ?_
      refine lv_iadd hx hb dX7_codeOf_111 ?_
      refine lv_iconst (v := 2) hx hb dX7_codeOf_112 (by decide) ?_
      refine lv_isub hx hb dX7_codeOf_113 ?_
      exact ke_i hx hb hr hlk dX7_codeOf_114 (by first | rfl | (try delta mCode; try delta mDelay; simp only [if_neg c_56, if_neg c_67, bI_true, bI_false]))
  · refine lv_iconst (v := 0) hx hb dX7_codeOf_59 (by decide) ?_
    refine lv_goto (tgt := 81) hx hb dX7_codeOf_60 (by decide) ?_
    refine lv_istore (lv' := [(6, .int 0), (5, .int (pAbs ((mY (N (10 + j)) ((N (10 + j)) 1)) - ((N (40 + i)) 1)))), (4, .int (pAbs ((mX (N (10 + j)) ((N (10 + j)) 1)) - ((N (40 + i)) 0)))), (3, .ref (md (40 + i))), (0, .ref (md 0)), (1, .int (nI i)), (2, .int (nI j))]) hx hb dX7_codeOf_81 hl (by decide) rfl (fun ls hl => ?_)
    have hml : c.maxLocals = ls.size := hml9.trans hl.1.symm
    refine lv_aload_n hx hb dX7_codeOf_83 rfl (lv_at hl 4 rfl) ?_
    refine lv_iload_n hx hb dX7_codeOf_84 rfl (lv_at hl 5 rfl) ?_
    refine lv_iload_n hx hb dX7_codeOf_85 rfl (lv_at hl 6 rfl) ?_
    refine kc_i (kr_V (As := [.int (nI i), .int (nI j)]) (rest := []) hx hb hml hown hG (c_X7_trueOf l D cy md N co su i j hi hj) cf_X7_trueOf wM_X7_134 hw.o rfl hw ⟨rfl, rfl, by decide, by decide⟩ rfl rfl (Nat.le_of_ble_eq_true rfl) ⟨Nat.le_of_ble_eq_true rfl, Nat.le_of_ble_eq_true rfl⟩ dX7_codeOf_86) ?_
    refine lv_iload hx hb dX7_codeOf_89 (lv_at hl 0 rfl) ?_
    refine lv_iadd hx hb dX7_codeOf_91 ?_
    refine lv_bipush (v := 7) hx hb dX7_codeOf_92 (by decide) ?_
    refine lv_aload_n hx hb dX7_codeOf_94 rfl (lv_at hl 4 rfl) ?_
    refine k_get (ci := 7) (C := RX7) (T := TX7) (N := 20) (v := .int ((N 0) 1)) hx hb hown hG rfl kin_X7 hw.o 1 (by decide) wF_X7_64 rfl dX7_codeOf_95 ?_
    refine lv_imul hx hb dX7_codeOf_98 ?_
    refine lv_iconst (v := 3) hx hb dX7_codeOf_99 (by decide) ?_
    refine lv_iload_n hx hb dX7_codeOf_100 rfl (lv_at hl 6 rfl) ?_
    refine lv_imul hx hb dX7_codeOf_101 ?_
    refine lv_iadd hx hb dX7_codeOf_102 ?_
    refine lv_iconst (v := 2) hx hb dX7_codeOf_103 (by decide) ?_
    refine lv_iload_n hx hb dX7_codeOf_104 rfl (lv_at hl 5 rfl) ?_
    refine lv_imul hx hb dX7_codeOf_105 ?_
    refine lv_iadd hx hb dX7_codeOf_106 ?_
    refine lv_iconst (v := 5) hx hb dX7_codeOf_107 (by decide) ?_
    refine kc_i (kr_S (As := [.int (((7 * ((N 0) 1)) + (3 * (nI j))) + (2 * (nI i))), .int 5]) (rest := [.int ((mTrue (N (40 + i)) (N (10 + j))) + 0)]) hx hb hml hown hG (c_J9_floorMod_7cf53 l D cy (((7 * ((N 0) 1)) + (3 * (nI j))) + (2 * (nI i))) 5 (by decide)) cf_J9_floorMod_7cf53 wM_X7_54 trivial ⟨rfl, rfl, by decide, by decide⟩ rfl rfl (Nat.le_of_ble_eq_true rfl) ⟨Nat.le_of_ble_eq_true rfl, Nat.le_of_ble_eq_true rfl⟩ dX7_codeOf_108) ?_
    refine lv_iadd hx hb dX7_codeOf_111 ?_
    refine lv_iconst (v := 2) hx hb dX7_codeOf_112 (by decide) ?_
    refine lv_isub hx hb dX7_codeOf_113 ?_
    exact ke_i hx hb hr hlk dX7_codeOf_114 (by first | rfl | (try delta mCode; try delta mDelay; simp only [if_pos c_56, bI_true, bI_false]))
set_option maxHeartbeats 4000000 in
set_option maxRecDepth 100000 in
theorem c_X7_over (l : Launch) (D : va_G) (cy : Nat → ClassId) (md : Nat → Nat) (N : Nat → Nat → Int32) (co su : Int64) (j : Nat) (hj : j < 8) (x y : Int32) : Met l yX7_over [.code yX7_over cX7_over 4 (some .int)] ({ frames := 2, cells := 0, slots := 0, locals := 46 } : Room) (PC D cy [.ref (md 0), .int (nI j), .int x, .int y] (fun H => MW D cy md N co su H)) (RQi (mOver N x y j)) 0 0 (fun _ => False) := by
  refine k_body (by decide +kernel) (Nat.le_of_ble_eq_true rfl) ?_
  intro p e s m below meth c ls hx hb hml hown hr hlk hmn hl hG hI
  have hml9 : c.maxLocals = 4 := hml.trans hl.1
  have hl : lv_has ls 4 [(0, .ref (md 0)), (1, .int (nI j)), (2, .int x), (3, .int y)] := hl
  have hw := hI
  refine lv_aload_n hx hb dX7_over_0 rfl (lv_at hl 0 rfl) ?_
  refine k_get (ci := 7) (C := RX7) (T := TX7) (N := 20) (v := .ref (md 8)) hx hb hown hG rfl kin_X7 hw.o 13 (by decide) wF_X7_35 rfl dX7_over_1 ?_
  refine lv_iload_n hx hb dX7_over_4 rfl (lv_at hl 1 rfl) ?_
  refine k_iald (v := ((N 8) j)) hx hb hG (hw.ps) (vp_in_nI (n := j) hj (by decide)) (congrArg (N 8) (nI_clamp (by have := hj; omega))) dX7_over_5 ?_
  refine lv_iload_n hx hb dX7_over_6 rfl (lv_at hl 2 rfl) ?_
  refine lv_iload_n hx hb dX7_over_7 rfl (lv_at hl 3 rfl) ?_
  refine lv_aload_n hx hb dX7_over_8 rfl (lv_at hl 0 rfl) ?_
  refine k_get (ci := 7) (C := RX7) (T := TX7) (N := 20) (v := .ref (md 6)) hx hb hown hG rfl kin_X7 hw.o 11 (by decide) wF_X7_28 rfl dX7_over_9 ?_
  refine lv_iload_n hx hb dX7_over_12 rfl (lv_at hl 1 rfl) ?_
  refine k_iald (v := ((N 6) j)) hx hb hG (hw.sx) (vp_in_nI (n := j) hj (by decide)) (congrArg (N 6) (nI_clamp (by have := hj; omega))) dX7_over_13 ?_
  refine lv_aload_n hx hb dX7_over_14 rfl (lv_at hl 0 rfl) ?_
  refine k_get (ci := 7) (C := RX7) (T := TX7) (N := 20) (v := .ref (md 7)) hx hb hown hG rfl kin_X7 hw.o 12 (by decide) wF_X7_32 rfl dX7_over_15 ?_
  refine lv_iload_n hx hb dX7_over_18 rfl (lv_at hl 1 rfl) ?_
  refine k_iald (v := ((N 7) j)) hx hb hG (hw.sy) (vp_in_nI (n := j) hj (by decide)) (congrArg (N 7) (nI_clamp (by have := hj; omega))) dX7_over_19 ?_
  refine kc_i (kr_S (As := [.int x, .int y, .int ((N 6) j), .int ((N 7) j)]) (rest := [.int ((N 8) j)]) hx hb hml hown hG (c_X7_range l D cy x y ((N 6) j) ((N 7) j)) cf_X7_range wM_X7_118 trivial ⟨rfl, rfl, by decide, by decide⟩ rfl rfl (Nat.le_of_ble_eq_true rfl) ⟨Nat.le_of_ble_eq_true rfl, Nat.le_of_ble_eq_true rfl⟩ dX7_over_20) ?_
  refine lv_isub hx hb dX7_over_23 ?_
  exact ke_i hx hb hr hlk dX7_over_24 (by first | rfl | (try delta mOver; simp only [bI_true, bI_false]))
set_option maxHeartbeats 4000000 in
set_option maxRecDepth 100000 in
theorem c_X7_ofStarNow (l : Launch) (D : va_G) (cy : Nat → ClassId) (md : Nat → Nat) (N : Nat → Nat → Int32) (co su : Int64) (i : Nat) (hi : i < 8) (w : Int32) (h0 : ¬ w < 0) : Met l yX7_ofStarNow [.code yX7_ofStarNow cX7_ofStarNow 4 (some .int)] ({ frames := 3, cells := 0, slots := 0, locals := 65 } : Room) (PC D cy [.ref (md 0), .int (nI i), .int w] (fun H => MW D cy md N co su H)) (RQi (mOfStar (N (10 + i)) w)) 0 0 (fun _ => False) := by
  refine k_body (by decide +kernel) (Nat.le_of_ble_eq_true rfl) ?_
  intro p e s m below meth c ls hx hb hml hown hr hlk hmn hl hG hI
  have hml9 : c.maxLocals = 4 := hml.trans hl.1
  have hl : lv_has ls 4 [(0, .ref (md 0)), (1, .int (nI i)), (2, .int w)] := hl
  have hw := hI
  refine lv_aload_n hx hb dX7_ofStarNow_0 rfl (lv_at hl 0 rfl) ?_
  refine k_get (ci := 7) (C := RX7) (T := TX7) (N := 20) (v := .ref (md 1)) hx hb hown hG rfl kin_X7 hw.o 3 (by decide) wF_X7_11 rfl dX7_ofStarNow_1 ?_
  refine lv_iload_n hx hb dX7_ofStarNow_4 rfl (lv_at hl 1 rfl) ?_
  refine k_ald2 (v := (md (10 + i))) hx hb hG 5 rfl hw.a1 (vp_in_nI (n := i) hi (by decide)) (mo_st hi) dX7_ofStarNow_5 ?_
  refine lv_astore_n (lv' := [(3, .ref (md (10 + i))), (0, .ref (md 0)), (1, .int (nI i)), (2, .int w)]) hx hb dX7_ofStarNow_6 rfl hl (by decide) rfl (fun ls hl => ?_)
  have hml : c.maxLocals = ls.size := hml9.trans hl.1.symm
  refine lv_iload_n hx hb dX7_ofStarNow_7 rfl (lv_at hl 3 rfl) ?_
  refine lv_bipush (v := 6) hx hb dX7_ofStarNow_8 (by decide) ?_
  refine lv_icmp_ge (tgt := 19) hx hb dX7_ofStarNow_10 (by decide) (fun c_10 => ?_) (fun c_10 => ?_)
  · refine lv_iload_n hx hb dX7_ofStarNow_19 rfl (lv_at hl 3 rfl) ?_
    refine lv_bipush (v := 6) hx hb dX7_ofStarNow_20 (by decide) ?_
    refine lv_icmp_ne (tgt := 36) hx hb dX7_ofStarNow_22 (by decide) (fun c_22 => ?_) (fun c_22 => ?_)
    · refine lv_aload_n hx hb dX7_ofStarNow_36 rfl (lv_at hl 1 rfl) ?_
      refine lv_iload_n hx hb dX7_ofStarNow_37 rfl (lv_at hl 2 rfl) ?_
      refine lv_aload_n hx hb dX7_ofStarNow_38 rfl (lv_at hl 0 rfl) ?_
      refine lv_iconst (v := 1) hx hb dX7_ofStarNow_39 (by decide) ?_
      refine k_iald (v := ((N (10 + i)) 1)) hx hb hG (hw.st hi) (show vp_in (nI 1) 6 from vp_in_nI (by decide) (by decide)) (congrArg (N (10 + i)) (clI 1 (by decide))) dX7_ofStarNow_40 ?_
      refine kc_i (kr_V (As := [.int (nI i), .int ((N (10 + i)) 1)]) (rest := []) hx hb hml hown hG (c_X7_yAt l D cy md N co su i hi ((N (10 + i)) 1)) cf_X7_yAt wM_X7_73 hw.o rfl hw ⟨rfl, rfl, by decide, by decide⟩ rfl rfl (Nat.le_of_ble_eq_true rfl) ⟨Nat.le_of_ble_eq_true rfl, Nat.le_of_ble_eq_true rfl⟩ dX7_ofStarNow_41) ?_
      exact ke_i hx hb hr hlk dX7_ofStarNow_44 (by first | rfl | (try delta mOfStar; simp only [if_pos c_10, if_neg c_22, bI_true, bI_false]))
    · refine lv_aload_n hx hb dX7_ofStarNow_25 rfl (lv_at hl 1 rfl) ?_
      refine lv_iload_n hx hb dX7_ofStarNow_26 rfl (lv_at hl 2 rfl) ?_
      refine lv_aload_n hx hb dX7_ofStarNow_27 rfl (lv_at hl 0 rfl) ?_
      refine lv_iconst (v := 1) hx hb dX7_ofStarNow_28 (by decide) ?_
      refine k_iald (v := ((N (10 + i)) 1)) hx hb hG (hw.st hi) (show vp_in (nI 1) 6 from vp_in_nI (by decide) (by decide)) (congrArg (N (10 + i)) (clI 1 (by decide))) dX7_ofStarNow_29 ?_
      refine kc_i (kr_V (As := [.int (nI i), .int ((N (10 + i)) 1)]) (rest := []) hx hb hml hown hG (c_X7_xAt l D cy md N co su i hi ((N (10 + i)) 1)) cf_X7_xAt wM_X7_76 hw.o rfl hw ⟨rfl, rfl, by decide, by decide⟩ rfl rfl (Nat.le_of_ble_eq_true rfl) ⟨Nat.le_of_ble_eq_true rfl, Nat.le_of_ble_eq_true rfl⟩ dX7_ofStarNow_30) ?_
      refine lv_goto (tgt := 44) hx hb dX7_ofStarNow_33 (by decide) ?_
      exact ke_i hx hb hr hlk dX7_ofStarNow_44 (by first | rfl | (try delta mOfStar; simp only [if_pos c_10, if_pos c_22, bI_true, bI_false]))
  · refine lv_aload_n hx hb dX7_ofStarNow_13 rfl (lv_at hl 0 rfl) ?_
    refine lv_iload_n hx hb dX7_ofStarNow_14 rfl (lv_at hl 3 rfl) ?_
    refine k_iald (v := ((N (10 + i)) (w).toNatClampNeg)) hx hb hG (hw.st hi) (in_what (n := 6) (by decide) h0 c_10) rfl dX7_ofStarNow_15 ?_
    refine lv_goto (tgt := 44) hx hb dX7_ofStarNow_16 (by decide) ?_
    exact ke_i hx hb hr hlk dX7_ofStarNow_44 (by first | rfl | (try delta mOfStar; simp only [if_neg c_10, bI_true, bI_false]))
set_option maxHeartbeats 4000000 in
set_option maxRecDepth 100000 in
theorem c_X7_messageNow (l : Launch) (D : va_G) (cy : Nat → ClassId) (md : Nat → Nat) (N : Nat → Nat → Int32) (co su : Int64) (i : Nat) (hi : i < 8) (w : Int32) (h0 : ¬ w < 0) : Met l yX7_messageNow [.code yX7_messageNow cX7_messageNow 4 (some .int)] ({ frames := 4, cells := 0, slots := 0, locals := 88 } : Room) (PC D cy [.ref (md 0), .int (nI i), .int w] (fun H => MW D cy md N co su H)) (RQi (mMsg (N 0 1) (N (10 + i)) (N (20 + i)) w)) 0 0 (fun _ => False) := by
  refine k_body (by decide +kernel) (Nat.le_of_ble_eq_true rfl) ?_
  intro p e s m below meth c ls hx hb hml hown hr hlk hmn hl hG hI
  have hml9 : c.maxLocals = 4 := hml.trans hl.1
  have hl : lv_has ls 4 [(0, .ref (md 0)), (1, .int (nI i)), (2, .int w)] := hl
  have hw := hI
  refine lv_aload_n hx hb dX7_messageNow_0 rfl (lv_at hl 0 rfl) ?_
  refine k_get (ci := 7) (C := RX7) (T := TX7) (N := 20) (v := .ref (md 2)) hx hb hown hG rfl kin_X7 hw.o 4 (by decide) wF_X7_14 rfl dX7_messageNow_1 ?_
  refine lv_iload_n hx hb dX7_messageNow_4 rfl (lv_at hl 1 rfl) ?_
  refine k_ald2 (v := (md (20 + i))) hx hb hG 5 rfl hw.a2 (vp_in_nI (n := i) hi (by decide)) (mo_ms hi) dX7_messageNow_5 ?_
  refine lv_astore_n (lv' := [(3, .ref (md (20 + i))), (0, .ref (md 0)), (1, .int (nI i)), (2, .int w)]) hx hb dX7_messageNow_6 rfl hl (by decide) rfl (fun ls hl => ?_)
  have hml : c.maxLocals = ls.size := hml9.trans hl.1.symm
  refine lv_iload_n hx hb dX7_messageNow_7 rfl (lv_at hl 3 rfl) ?_
  refine lv_iconst (v := 5) hx hb dX7_messageNow_8 (by decide) ?_
  refine lv_icmp_ge (tgt := 16) hx hb dX7_messageNow_9 (by decide) (fun c_9 => ?_) (fun c_9 => ?_)
  · refine lv_iload_n hx hb dX7_messageNow_16 rfl (lv_at hl 3 rfl) ?_
    refine lv_iconst (v := 5) hx hb dX7_messageNow_17 (by decide) ?_
    refine lv_icmp_ne (tgt := 35) hx hb dX7_messageNow_18 (by decide) (fun c_18 => ?_) (fun c_18 => ?_)
    · refine lv_aload_n hx hb dX7_messageNow_35 rfl (lv_at hl 0 rfl) ?_
      refine lv_iconst (v := 0) hx hb dX7_messageNow_36 (by decide) ?_
      refine k_iald (v := ((N (20 + i)) 0)) hx hb hG (hw.ms hi) (show vp_in (nI 0) 5 from vp_in_nI (by decide) (by decide)) (congrArg (N (20 + i)) (clI 0 (by decide))) dX7_messageNow_37 ?_
      refine lv_if_ne (tgt := 43) hx hb dX7_messageNow_38 (by decide) (fun c_38 => ?_) (fun c_38 => ?_)
      · refine lv_iload_n hx hb dX7_messageNow_43 rfl (lv_at hl 3 rfl) ?_
        refine lv_bipush (v := 6) hx hb dX7_messageNow_44 (by decide) ?_
        refine lv_icmp_ne (tgt := 67) hx hb dX7_messageNow_46 (by decide) (fun c_46 => ?_) (fun c_46 => ?_)
        · refine lv_aload_n hx hb dX7_messageNow_67 rfl (lv_at hl 1 rfl) ?_
          refine lv_iload_n hx hb dX7_messageNow_68 rfl (lv_at hl 2 rfl) ?_
          refine lv_aload_n hx hb dX7_messageNow_69 rfl (lv_at hl 1 rfl) ?_
          refine lv_iload_n hx hb dX7_messageNow_70 rfl (lv_at hl 2 rfl) ?_
          refine kc_i (kr_V (As := [.int (nI i)]) (rest := [.int (nI i), .ref (md 0)]) hx hb hml hown hG (c_X7_toldPhase l D cy md N co su i hi) cf_X7_toldPhase wM_X7_167 hw.o rfl hw ⟨rfl, rfl, by decide, by decide⟩ rfl rfl (Nat.le_of_ble_eq_true rfl) ⟨Nat.le_of_ble_eq_true rfl, Nat.le_of_ble_eq_true rfl⟩ dX7_messageNow_71) ?_
          refine kc_i (kr_V (As := [.int (nI i), .int (mTP (N 0 1) (N (10 + i)) (N (20 + i)))]) (rest := []) hx hb hml hown hG (c_X7_xAt l D cy md N co su i hi (mTP (N 0 1) (N (10 + i)) (N (20 + i)))) cf_X7_xAt wM_X7_76 hw.o rfl hw ⟨rfl, rfl, by decide, by decide⟩ rfl rfl (Nat.le_of_ble_eq_true rfl) ⟨Nat.le_of_ble_eq_true rfl, Nat.le_of_ble_eq_true rfl⟩ dX7_messageNow_74) ?_
          refine lv_aload_n hx hb dX7_messageNow_77 rfl (lv_at hl 1 rfl) ?_
          refine lv_iload_n hx hb dX7_messageNow_78 rfl (lv_at hl 2 rfl) ?_
          refine lv_aload_n hx hb dX7_messageNow_79 rfl (lv_at hl 1 rfl) ?_
          refine lv_iload_n hx hb dX7_messageNow_80 rfl (lv_at hl 2 rfl) ?_
          refine kc_i (kr_V (As := [.int (nI i)]) (rest := [.int (nI i), .ref (md 0), .int (mX (N (10 + i)) (mTP (N 0 1) (N (10 + i)) (N (20 + i))))]) hx hb hml hown hG (c_X7_toldPhase l D cy md N co su i hi) cf_X7_toldPhase wM_X7_167 hw.o rfl hw ⟨rfl, rfl, by decide, by decide⟩ rfl rfl (Nat.le_of_ble_eq_true rfl) ⟨Nat.le_of_ble_eq_true rfl, Nat.le_of_ble_eq_true rfl⟩ dX7_messageNow_81) ?_
          refine kc_i (kr_V (As := [.int (nI i), .int (mTP (N 0 1) (N (10 + i)) (N (20 + i)))]) (rest := [.int (mX (N (10 + i)) (mTP (N 0 1) (N (10 + i)) (N (20 + i))))]) hx hb hml hown hG (c_X7_yAt l D cy md N co su i hi (mTP (N 0 1) (N (10 + i)) (N (20 + i)))) cf_X7_yAt wM_X7_73 hw.o rfl hw ⟨rfl, rfl, by decide, by decide⟩ rfl rfl (Nat.le_of_ble_eq_true rfl) ⟨Nat.le_of_ble_eq_true rfl, Nat.le_of_ble_eq_true rfl⟩ dX7_messageNow_84) ?_
          refine lv_aload_n hx hb dX7_messageNow_87 rfl (lv_at hl 1 rfl) ?_
          refine lv_iload_n hx hb dX7_messageNow_88 rfl (lv_at hl 2 rfl) ?_
          refine lv_bipush (v := 6) hx hb dX7_messageNow_89 (by decide) ?_
          refine kc_i (kr_V (As := [.int (nI i), .int 6]) (rest := [.int (mY (N (10 + i)) (mTP (N 0 1) (N (10 + i)) (N (20 + i)))), .int (mX (N (10 + i)) (mTP (N 0 1) (N (10 + i)) (N (20 + i))))]) hx hb hml hown hG (c_X7_ofStarNow l D cy md N co su i hi 6 (by decide)) cf_X7_ofStarNow wM_X7_205 hw.o rfl hw ⟨rfl, rfl, by decide, by decide⟩ rfl rfl (Nat.le_of_ble_eq_true rfl) ⟨Nat.le_of_ble_eq_true rfl, Nat.le_of_ble_eq_true rfl⟩ dX7_messageNow_91) ?_
          refine lv_aload_n hx hb dX7_messageNow_94 rfl (lv_at hl 1 rfl) ?_
          refine lv_iload_n hx hb dX7_messageNow_95 rfl (lv_at hl 2 rfl) ?_
          refine lv_bipush (v := 7) hx hb dX7_messageNow_96 (by decide) ?_
          refine kc_i (kr_V (As := [.int (nI i), .int 7]) (rest := [.int (mOfStar (N (10 + i)) 6), .int (mY (N (10 + i)) (mTP (N 0 1) (N (10 + i)) (N (20 + i)))), .int (mX (N (10 + i)) (mTP (N 0 1) (N (10 + i)) (N (20 + i))))]) hx hb hml hown hG (c_X7_ofStarNow l D cy md N co su i hi 7 (by decide)) cf_X7_ofStarNow wM_X7_205 hw.o rfl hw ⟨rfl, rfl, by decide, by decide⟩ rfl rfl (Nat.le_of_ble_eq_true rfl) ⟨Nat.le_of_ble_eq_true rfl, Nat.le_of_ble_eq_true rfl⟩ dX7_messageNow_98) ?_
          refine kc_i (kr_S (As := [.int (mX (N (10 + i)) (mTP (N 0 1) (N (10 + i)) (N (20 + i)))), .int (mY (N (10 + i)) (mTP (N 0 1) (N (10 + i)) (N (20 + i)))), .int (mOfStar (N (10 + i)) 6), .int (mOfStar (N (10 + i)) 7)]) (rest := []) hx hb hml hown hG (c_X7_range l D cy (mX (N (10 + i)) (mTP (N 0 1) (N (10 + i)) (N (20 + i)))) (mY (N (10 + i)) (mTP (N 0 1) (N (10 + i)) (N (20 + i)))) (mOfStar (N (10 + i)) 6) (mOfStar (N (10 + i)) 7)) cf_X7_range wM_X7_118 trivial ⟨rfl, rfl, by decide, by decide⟩ rfl rfl (Nat.le_of_ble_eq_true rfl) ⟨Nat.le_of_ble_eq_true rfl, Nat.le_of_ble_eq_true rfl⟩ dX7_messageNow_101) ?_
          exact ke_i hx hb hr hlk dX7_messageNow_104 (by first | rfl | (try delta mMsg; simp only [if_pos c_9, if_neg c_18, if_neg c_38, if_neg c_46, bI_true, bI_false]))
        · refine lv_aload_n hx hb dX7_messageNow_49 rfl (lv_at hl 1 rfl) ?_
          refine lv_iload_n hx hb dX7_messageNow_50 rfl (lv_at hl 2 rfl) ?_
          refine kc_i (kr_V (As := [.int (nI i)]) (rest := []) hx hb hml hown hG (c_X7_toldOffset l D cy md N co su i hi) cf_X7_toldOffset wM_X7_173 hw.o rfl hw ⟨rfl, rfl, by decide, by decide⟩ rfl rfl (Nat.le_of_ble_eq_true rfl) ⟨Nat.le_of_ble_eq_true rfl, Nat.le_of_ble_eq_true rfl⟩ dX7_messageNow_51) ?_
          refine lv_aload_n hx hb dX7_messageNow_54 rfl (lv_at hl 1 rfl) ?_
          refine k_get (ci := 7) (C := RX7) (T := TX7) (N := 20) (v := .ref (md 1)) hx hb hown hG rfl kin_X7 hw.o 3 (by decide) wF_X7_11 rfl dX7_messageNow_55 ?_
          refine lv_iload_n hx hb dX7_messageNow_58 rfl (lv_at hl 2 rfl) ?_
          refine k_ald2 (v := (md (10 + i))) hx hb hG 5 rfl hw.a1 (vp_in_nI (n := i) hi (by decide)) (mo_st hi) dX7_messageNow_59 ?_
          refine lv_iconst (v := 3) hx hb dX7_messageNow_60 (by decide) ?_
          refine k_iald (v := ((N (10 + i)) 3)) hx hb hG (hw.st hi) (show vp_in (nI 3) 6 from vp_in_nI (by decide) (by decide)) (congrArg (N (10 + i)) (clI 3 (by decide))) dX7_messageNow_61 ?_
          refine lv_isub hx hb dX7_messageNow_62 ?_
          refine k_mabs hx hb hml hown hG wM_X7_61 (Nat.le_of_ble_eq_true rfl) (Nat.le_of_ble_eq_true rfl) (Nat.le_of_ble_eq_true rfl) (Nat.le_of_ble_eq_true rfl) dX7_messageNow_63 ?_
          exact ke_i hx hb hr hlk dX7_messageNow_66 (by first | rfl | (try delta mMsg; simp only [if_pos c_9, if_neg c_18, if_neg c_38, if_pos c_46, bI_true, bI_false]))
      · refine lv_iconst (v := 0) hx hb dX7_messageNow_41 (by decide) ?_
        exact ke_i hx hb hr hlk dX7_messageNow_42 (by first | rfl | (try delta mMsg; simp only [if_pos c_9, if_neg c_18, if_pos c_38, bI_true, bI_false]))
    · refine lv_aload_n hx hb dX7_messageNow_21 rfl (lv_at hl 1 rfl) ?_
      refine lv_iload_n hx hb dX7_messageNow_22 rfl (lv_at hl 2 rfl) ?_
      refine kc_i (kr_V (As := [.int (nI i)]) (rest := []) hx hb hml hown hG (c_X7_holds l D cy md N co su i hi) cf_X7_holds wM_X7_164 hw.o rfl hw ⟨rfl, rfl, by decide, by decide⟩ rfl rfl (Nat.le_of_ble_eq_true rfl) ⟨Nat.le_of_ble_eq_true rfl, Nat.le_of_ble_eq_true rfl⟩ dX7_messageNow_23) ?_
      refine lv_if_eq (tgt := 33) hx hb dX7_messageNow_26 (by decide) (fun c_26 => ?_) (fun c_26 => ?_)
      · refine lv_iconst (v := 0) hx hb dX7_messageNow_33 (by decide) ?_
        exact ke_i hx hb hr hlk dX7_messageNow_34 (by first | rfl | (try delta mMsg; simp only [if_pos c_9, if_pos c_18, if_pos c_26, bI_true, bI_false]))
      · refine lv_iconst (v := 1) hx hb dX7_messageNow_29 (by decide) ?_
        refine lv_goto (tgt := 34) hx hb dX7_messageNow_30 (by decide) ?_
        exact ke_i hx hb hr hlk dX7_messageNow_34 (by first | rfl | (try delta mMsg; simp only [if_pos c_9, if_pos c_18, if_neg c_26, bI_true, bI_false]))
  · refine lv_aload_n hx hb dX7_messageNow_12 rfl (lv_at hl 0 rfl) ?_
    refine lv_iload_n hx hb dX7_messageNow_13 rfl (lv_at hl 3 rfl) ?_
    refine k_iald (v := ((N (20 + i)) (w).toNatClampNeg)) hx hb hG (hw.ms hi) (in_what (n := 5) (by decide) h0 c_9) rfl dX7_messageNow_14 ?_
    exact ke_i hx hb hr hlk dX7_messageNow_15 (by first | rfl | (try delta mMsg; simp only [if_neg c_9, bI_true, bI_false]))
set_option maxHeartbeats 4000000 in
set_option maxRecDepth 100000 in
theorem c_X7_seenNow (l : Launch) (D : va_G) (cy : Nat → ClassId) (md : Nat → Nat) (N : Nat → Nat → Int32) (co su : Int64) (i j : Nat) (hi : i < 3) (hj : j < 8) (w : Int32) (h0 : ¬ w < 0) (h7 : w ≤ 7) : Met l yX7_seenNow [.code yX7_seenNow cX7_seenNow 5 (some .int)] ({ frames := 0, cells := 0, slots := 0, locals := 0 } : Room) (PC D cy [.ref (md 0), .int (nI i), .int (nI j), .int w] (fun H => MW D cy md N co su H)) (RQi (mSeenNow (N (60 + 8 * i + j)) w)) 0 0 (fun _ => False) := by
  refine k_body (by decide +kernel) (Nat.le_of_ble_eq_true rfl) ?_
  intro p e s m below meth c ls hx hb hml hown hr hlk hmn hl hG hI
  have hml9 : c.maxLocals = 5 := hml.trans hl.1
  have hl : lv_has ls 5 [(0, .ref (md 0)), (1, .int (nI i)), (2, .int (nI j)), (3, .int w)] := hl
  have hw := hI
  refine lv_aload_n hx hb dX7_seenNow_0 rfl (lv_at hl 0 rfl) ?_
  refine k_get (ci := 7) (C := RX7) (T := TX7) (N := 20) (v := .ref (md 5)) hx hb hown hG rfl kin_X7 hw.o 7 (by decide) wF_X7_25 rfl dX7_seenNow_1 ?_
  refine lv_iload_n hx hb dX7_seenNow_4 rfl (lv_at hl 1 rfl) ?_
  refine k_ald2 (v := (md (50 + i))) hx hb hG 6 rfl hw.a5 (vp_in_nI (n := i) hi (by decide)) (mo_ro hi) dX7_seenNow_5 ?_
  refine lv_iload_n hx hb dX7_seenNow_6 rfl (lv_at hl 2 rfl) ?_
  refine k_ald2 (v := (md (60 + 8 * i + j))) hx hb hG 5 rfl (hw.ro hi) (vp_in_nI (n := j) hj (by decide)) (mo_rw (i := i) hj) dX7_seenNow_7 ?_
  refine lv_astore (lv' := [(4, .ref (md (60 + 8 * i + j))), (0, .ref (md 0)), (1, .int (nI i)), (2, .int (nI j)), (3, .int w)]) hx hb dX7_seenNow_8 hl (by decide) rfl (fun ls hl => ?_)
  have hml : c.maxLocals = ls.size := hml9.trans hl.1.symm
  refine lv_aload hx hb dX7_seenNow_10 (lv_at hl 0 rfl) ?_
  refine lv_bipush (v := 11) hx hb dX7_seenNow_12 (by decide) ?_
  refine k_iald (v := ((N (60 + 8 * i + j)) 11)) hx hb hG (hw.rw hi hj) (show vp_in (nI 11) 12 from vp_in_nI (by decide) (by decide)) (congrArg (N (60 + 8 * i + j)) (clI 11 (by decide))) dX7_seenNow_14 ?_
  refine lv_iconst (v := 1) hx hb dX7_seenNow_15 (by decide) ?_
  refine lv_icmp_ne (tgt := 26) hx hb dX7_seenNow_16 (by decide) (fun c_16 => ?_) (fun c_16 => ?_)
  · refine lv_iload_n hx hb dX7_seenNow_26 rfl (lv_at hl 4 rfl) ?_
    refine lv_iconst (v := 5) hx hb dX7_seenNow_27 (by decide) ?_
    refine lv_icmp_eq (tgt := 37) hx hb dX7_seenNow_28 (by decide) (fun c_28 => ?_) (fun c_28 => ?_)
    · refine lv_iconst (v := 0) hx hb dX7_seenNow_37 (by decide) ?_
      refine lv_goto (tgt := 42) hx hb dX7_seenNow_38 (by decide) ?_
      exact ke_i hx hb hr hlk dX7_seenNow_42 (by first | rfl | (try delta mSeenNow; simp only [if_neg c_16, if_pos c_28, bI_true, bI_false]))
    · refine lv_iload_n hx hb dX7_seenNow_31 rfl (lv_at hl 4 rfl) ?_
      refine lv_bipush (v := 6) hx hb dX7_seenNow_32 (by decide) ?_
      refine lv_icmp_ne (tgt := 41) hx hb dX7_seenNow_34 (by decide) (fun c_34 => ?_) (fun c_34 => ?_)
      · refine lv_iconst (v := (-1)) hx hb dX7_seenNow_41 (by decide) ?_
        exact ke_i hx hb hr hlk dX7_seenNow_42 (by first | rfl | (try delta mSeenNow; simp only [if_neg c_16, if_neg c_28, if_neg c_34, bI_true, bI_false]))
      · refine lv_iconst (v := 0) hx hb dX7_seenNow_37 (by decide) ?_
        refine lv_goto (tgt := 42) hx hb dX7_seenNow_38 (by decide) ?_
        exact ke_i hx hb hr hlk dX7_seenNow_42 (by first | rfl | (try delta mSeenNow; simp only [if_neg c_16, if_neg c_28, if_pos c_34, bI_true, bI_false]))
  · refine lv_aload hx hb dX7_seenNow_19 (lv_at hl 0 rfl) ?_
    refine lv_iload_n hx hb dX7_seenNow_21 rfl (lv_at hl 4 rfl) ?_
    refine k_iald (v := ((N (60 + 8 * i + j)) (w).toNatClampNeg)) hx hb hG (hw.rw hi hj) (in_le (n := 12) (m := 7) (by decide) (by decide) h0 h7) rfl dX7_seenNow_22 ?_
    refine lv_goto (tgt := 42) hx hb dX7_seenNow_23 (by decide) ?_
    exact ke_i hx hb hr hlk dX7_seenNow_42 (by first | rfl | (try delta mSeenNow; simp only [if_pos c_16, bI_true, bI_false]))
set_option maxHeartbeats 4000000 in
set_option maxRecDepth 100000 in
theorem c_X7_heardNow (l : Launch) (D : va_G) (cy : Nat → ClassId) (md : Nat → Nat) (N : Nat → Nat → Int32) (co su : Int64) (i j : Nat) (hi : i < 8) (hj : j < 3) : Met l yX7_heardNow [.code yX7_heardNow cX7_heardNow 4 (some .int)] ({ frames := 4, cells := 0, slots := 0, locals := 89 } : Room) (PC D cy [.ref (md 0), .int (nI i), .int (nI j)] (fun H => MW D cy md N co su H)) (RQi (mFs (N (10 + i)) (N (30 + j)) 49 0)) 0 0 (fun _ => False) := by
  refine k_body (by decide +kernel) (Nat.le_of_ble_eq_true rfl) ?_
  intro p e s m below meth c ls hx hb hml hown hr hlk hmn hl hG hI
  have hml9 : c.maxLocals = 4 := hml.trans hl.1
  have hl : lv_has ls 4 [(0, .ref (md 0)), (1, .int (nI i)), (2, .int (nI j))] := hl
  have hw := hI
  refine lv_iconst (v := 0) hx hb dX7_heardNow_0 (by decide) ?_
  refine lv_istore_n (lv' := [(3, .int 0), (0, .ref (md 0)), (1, .int (nI i)), (2, .int (nI j))]) hx hb dX7_heardNow_1 rfl hl (by decide) rfl (fun ls hl => ?_)
  have hml : c.maxLocals = ls.size := hml9.trans hl.1.symm
  have lp2_1 : ∀ (n9 : Nat) (k f : Nat), f + 1 ≤ n9 → f + k = 49 → mFs (N (10 + i)) (N (30 + j)) f k = mFs (N (10 + i)) (N (30 + j)) 49 0 →  ∀ ls : Array Slot, lv_has ls 4 [(3, .int (nI k)), (0, .ref (md 0)), (1, .int (nI i)), (2, .int (nI j))] → W p l e ({ frames := 4, cells := 0, slots := 0, locals := 89 } : Room) s m ([.ref (md 0), .int (nI i), .int (nI j)] : List Value).toArray below meth c s.heap [] 0 0 (MQ below (RQi (mFs (N (10 + i)) (N (30 + j)) 49 0)) ([.ref (md 0), .int (nI i), .int (nI j)] : List Value).toArray s 0 0 (fun _ => False)) (F0 m 2 ls []) := by
    intro n9
    induction n9 with
    | zero =>
      intro k f h9
      exact absurd h9 (by omega)
    | succ n9 ih9 =>
      intro k f hn9 hk ef ls hl
      have hml : c.maxLocals = ls.size := hml9.trans hl.1.symm
      refine lv_iload_n hx hb dX7_heardNow_2 rfl (lv_at hl 0 rfl) ?_
      refine lv_bipush (v := 48) hx hb dX7_heardNow_3 (by decide) ?_
      refine lv_icmp_gt (tgt := 26) hx hb dX7_heardNow_5 (by decide) (fun c_5 => ?_) (fun c_5 => ?_)
      · have ek : k = 49 := (g48 k (by omega)).mp c_5
        have e0 : f = 0 := by omega
        subst e0
        refine lv_iconst (v := (-1)) hx hb dX7_heardNow_26 (by decide) ?_
        exact ke_i hx hb hr hlk dX7_heardNow_27 (by rw [← ef]; rw [mFs_0])
      · have hk2 : k < 49 := by
          have := mt (g48 k (by omega)).mpr c_5
          omega
        obtain ⟨f2, rfl⟩ : ∃ f2, f = f2 + 1 := ⟨f - 1, by omega⟩
        refine lv_aload_n hx hb dX7_heardNow_8 rfl (lv_at hl 1 rfl) ?_
        refine lv_iload_n hx hb dX7_heardNow_9 rfl (lv_at hl 2 rfl) ?_
        refine lv_iload_n hx hb dX7_heardNow_10 rfl (lv_at hl 3 rfl) ?_
        refine lv_iload_n hx hb dX7_heardNow_11 rfl (lv_at hl 0 rfl) ?_
        refine kc_i (kr_V (As := [.int (nI i), .int (nI j), .int (nI k)]) (rest := []) hx hb hml hown hG (c_X7_isHeard l D cy md N co su i j hi hj (nI k)) cf_X7_isHeard wM_X7_108 hw.o rfl hw ⟨rfl, rfl, by decide, by decide⟩ rfl rfl (Nat.le_of_ble_eq_true rfl) ⟨Nat.le_of_ble_eq_true rfl, Nat.le_of_ble_eq_true rfl⟩ dX7_heardNow_12) ?_
        refine lv_if_eq (tgt := 20) hx hb dX7_heardNow_15 (by decide) (fun c_15 => ?_) (fun c_15 => ?_)
        · refine lv_iinc (v := (nI (k + 1))) (lv' := [(3, .int (nI (k + 1))), (0, .ref (md 0)), (1, .int (nI i)), (2, .int (nI j))]) hx hb dX7_heardNow_20 hl (k := 0) rfl ((nI_succ k).symm) (by decide) rfl (fun ls hl => ?_)
          have hml : c.maxLocals = ls.size := hml9.trans hl.1.symm
          refine lv_goto (tgt := 2) hx hb dX7_heardNow_23 (by decide) ?_
          exact ih9 (k + 1) f2 (by omega) (by omega) (by rw [← ef, mFs_s, if_pos c_15]) ls (lv_sub hl [0, 1, 2, 3] rfl)
        · refine lv_iload_n hx hb dX7_heardNow_18 rfl (lv_at hl 0 rfl) ?_
          exact ke_i hx hb hr hlk dX7_heardNow_19 (by rw [← ef]; rw [mFs_s, if_neg c_15])
  exact lp2_1 50 0 49 (Nat.le_refl _) rfl rfl ls (lv_sub hl [0, 1, 2, 3] rfl)
set_option maxHeartbeats 4000000 in
set_option maxRecDepth 100000 in
theorem c_X7_alarm (l : Launch) (D : va_G) (cy : Nat → ClassId) (md : Nat → Nat) (N : Nat → Nat → Int32) (co su : Int64) (i : Nat) (hi : i < 3) (mn lv : Int32) : Met l yX7_alarm [.code yX7_alarm cX7_alarm 4 (some .int)] ({ frames := 0, cells := 0, slots := 0, locals := 0 } : Room) (PC D cy [.ref (md 0), .int (nI i), .int mn, .int lv] (fun H => MW D cy md N co su H)) (RQi (mAlarm (N (40 + i)) co mn lv)) 0 0 (fun _ => False) := by
  refine k_body (by decide +kernel) (Nat.le_of_ble_eq_true rfl) ?_
  intro p e s m below meth c ls hx hb hml hown hr hlk hmn hl hG hI
  have hml9 : c.maxLocals = 4 := hml.trans hl.1
  have hl : lv_has ls 4 [(0, .ref (md 0)), (1, .int (nI i)), (2, .int mn), (3, .int lv)] := hl
  have hw := hI
  refine lv_iload_n hx hb dX7_alarm_0 rfl (lv_at hl 2 rfl) ?_
  refine lv_iconst (v := 4) hx hb dX7_alarm_1 (by decide) ?_
  refine lv_icmp_ge (tgt := 9) hx hb dX7_alarm_2 (by decide) (fun c_2 => ?_) (fun c_2 => ?_)
  · refine lv_aload_n hx hb dX7_alarm_9 rfl (lv_at hl 0 rfl) ?_
    refine k_get (ci := 7) (C := RX7) (T := TX7) (N := 20) (v := .long co) hx hb hown hG rfl kin_X7 hw.o 18 (by decide) wF_X7_144 rfl dX7_alarm_10 ?_
    refine lv_ldc2 hx hb hown (hG.w wK_X7_182 rfl) dX7_alarm_13 ?_
    refine lv_iload_n hx hb dX7_alarm_16 rfl (lv_at hl 2 rfl) ?_
    refine lv_i2l (v := mn.toInt64) hx hb dX7_alarm_17 rfl ?_
    refine lv_lmul hx hb dX7_alarm_18 ?_
    refine W.lcmp hx hb dX7_alarm_19 ?_
    refine lv_if_le (tgt := 27) hx hb dX7_alarm_20 (by decide) (fun c_20 => ?_) (fun c_20 => ?_)
    · refine lv_iload_n hx hb dX7_alarm_27 rfl (lv_at hl 3 rfl) ?_
      refine lv_aload_n hx hb dX7_alarm_28 rfl (lv_at hl 0 rfl) ?_
      refine k_get (ci := 7) (C := RX7) (T := TX7) (N := 20) (v := .ref (md 4)) hx hb hown hG rfl kin_X7 hw.o 6 (by decide) wF_X7_20 rfl dX7_alarm_29 ?_
      refine lv_iload_n hx hb dX7_alarm_32 rfl (lv_at hl 1 rfl) ?_
      refine k_ald2 (v := (md (40 + i))) hx hb hG 5 rfl hw.a4 (vp_in_nI (n := i) hi (by decide)) (mo_rc hi) dX7_alarm_33 ?_
      refine lv_bipush (v := 7) hx hb dX7_alarm_34 (by decide) ?_
      refine k_iald (v := ((N (40 + i)) 7)) hx hb hG (hw.rc hi) (show vp_in (nI 7) 22 from vp_in_nI (by decide) (by decide)) (congrArg (N (40 + i)) (clI 7 (by decide))) dX7_alarm_36 ?_
      refine lv_icmp_le (tgt := 44) hx hb dX7_alarm_37 (by decide) (fun c_37 => ?_) (fun c_37 => ?_)
      · refine lv_iconst (v := 0) hx hb dX7_alarm_44 (by decide) ?_
        exact ke_i hx hb hr hlk dX7_alarm_45 (by first | rfl | (try delta mAlarm; simp only [if_pos c_2, if_pos c_20, if_pos c_37, bI_true, bI_false]))
      · refine lv_iconst (v := 3) hx hb dX7_alarm_40 (by decide) ?_
        refine lv_goto (tgt := 45) hx hb dX7_alarm_41 (by decide) ?_
        exact ke_i hx hb hr hlk dX7_alarm_45 (by first | rfl | (try delta mAlarm; simp only [if_pos c_2, if_pos c_20, if_neg c_37, bI_true, bI_false]))
    · refine lv_iconst (v := 2) hx hb dX7_alarm_23 (by decide) ?_
      refine lv_goto (tgt := 45) hx hb dX7_alarm_24 (by decide) ?_
      exact ke_i hx hb hr hlk dX7_alarm_45 (by first | rfl | (try delta mAlarm; simp only [if_pos c_2, if_neg c_20, bI_true, bI_false]))
  · refine lv_iconst (v := 1) hx hb dX7_alarm_5 (by decide) ?_
    refine lv_goto (tgt := 45) hx hb dX7_alarm_6 (by decide) ?_
    exact ke_i hx hb hr hlk dX7_alarm_45 (by first | rfl | (try delta mAlarm; simp only [if_neg c_2, bI_true, bI_false]))
set_option maxHeartbeats 4000000 in
set_option maxRecDepth 100000 in
theorem c_X7_correction (l : Launch) (D : va_G) (cy : Nat → ClassId) (md : Nat → Nat) (N : Nat → Nat → Int32) (co su : Int64) (ns : Nat) (hns8 : ns ≤ 8) (ens : N 0 8 = nI ns) (hre : mRef N) (i j : Nat) (hi : i < 3) (hj : j < 8) : Met l yX7_correction [.code yX7_correction cX7_correction 8 (some .int)] ({ frames := 1, cells := 0, slots := 0, locals := 22 } : Room) (PC D cy [.ref (md 0), .int (nI i), .int (nI j)] (fun H => MW D cy md N co su H)) (RQi (mCorr N ns i j)) 0 0 (fun _ => False) := by
  refine k_body (by decide +kernel) (Nat.le_of_ble_eq_true rfl) ?_
  intro p e s m below meth c ls hx hb hml hown hr hlk hmn hl hG hI
  have hml9 : c.maxLocals = 8 := hml.trans hl.1
  have hl : lv_has ls 8 [(0, .ref (md 0)), (1, .int (nI i)), (2, .int (nI j))] := hl
  have hw := hI
  refine lv_aload_n hx hb dX7_correction_0 rfl (lv_at hl 0 rfl) ?_
  refine k_get (ci := 7) (C := RX7) (T := TX7) (N := 20) (v := .ref (md 4)) hx hb hown hG rfl kin_X7 hw.o 6 (by decide) wF_X7_20 rfl dX7_correction_1 ?_
  refine lv_iload_n hx hb dX7_correction_4 rfl (lv_at hl 1 rfl) ?_
  refine k_ald2 (v := (md (40 + i))) hx hb hG 5 rfl hw.a4 (vp_in_nI (n := i) hi (by decide)) (mo_rc hi) dX7_correction_5 ?_
  refine lv_bipush (v := 9) hx hb dX7_correction_6 (by decide) ?_
  refine k_iald (v := ((N (40 + i)) 9)) hx hb hG (hw.rc hi) (show vp_in (nI 9) 22 from vp_in_nI (by decide) (by decide)) (congrArg (N (40 + i)) (clI 9 (by decide))) dX7_correction_8 ?_
  refine lv_istore_n (lv' := [(3, .int ((N (40 + i)) 9)), (0, .ref (md 0)), (1, .int (nI i)), (2, .int (nI j))]) hx hb dX7_correction_9 rfl hl (by decide) rfl (fun ls hl => ?_)
  have hml : c.maxLocals = ls.size := hml9.trans hl.1.symm
  refine lv_iload_n hx hb dX7_correction_10 rfl (lv_at hl 0 rfl) ?_
  refine lv_iconst (v := (-1)) hx hb dX7_correction_11 (by decide) ?_
  refine lv_icmp_ne (tgt := 17) hx hb dX7_correction_12 (by decide) (fun c_12 => ?_) (fun c_12 => ?_)
  · obtain ⟨q, hq, er⟩ := (hre.1 i hi).resolve_left c_12
    refine lv_aload_n hx hb dX7_correction_17 rfl (lv_at hl 1 rfl) ?_
    refine k_get (ci := 7) (C := RX7) (T := TX7) (N := 20) (v := .ref (md 4)) hx hb hown hG rfl kin_X7 hw.o 6 (by decide) wF_X7_20 rfl dX7_correction_18 ?_
    refine lv_iload_n hx hb dX7_correction_21 rfl (lv_at hl 0 rfl) ?_
    refine k_ald2 (v := (md (40 + q))) hx hb hG 5 rfl hw.a4 (by rw [er]; exact vp_in_nI (n := q) hq (by decide)) (by rw [er]; exact mo_rc hq) dX7_correction_22 ?_
    refine lv_astore (lv' := [(4, .ref (md (40 + q))), (3, .int ((N (40 + i)) 9)), (0, .ref (md 0)), (1, .int (nI i)), (2, .int (nI j))]) hx hb dX7_correction_23 hl (by decide) rfl (fun ls hl => ?_)
    have hml : c.maxLocals = ls.size := hml9.trans hl.1.symm
    refine lv_aload_n hx hb dX7_correction_25 rfl (lv_at hl 2 rfl) ?_
    refine k_get (ci := 7) (C := RX7) (T := TX7) (N := 20) (v := .ref (md 5)) hx hb hown hG rfl kin_X7 hw.o 7 (by decide) wF_X7_25 rfl dX7_correction_26 ?_
    refine lv_iload_n hx hb dX7_correction_29 rfl (lv_at hl 1 rfl) ?_
    refine k_ald2 (v := (md (50 + q))) hx hb hG 6 rfl hw.a5 (by rw [er]; exact vp_in_nI (n := q) hq (by decide)) (by rw [er]; exact mo_ro hq) dX7_correction_30 ?_
    refine lv_iload_n hx hb dX7_correction_31 rfl (lv_at hl 4 rfl) ?_
    refine k_ald2 (v := (md (60 + 8 * q + j))) hx hb hG 5 rfl (hw.ro hq) (vp_in_nI (n := j) hj (by decide)) (mo_rw (i := q) hj) dX7_correction_32 ?_
    refine lv_astore (lv' := [(5, .ref (md (60 + 8 * q + j))), (4, .ref (md (40 + q))), (3, .int ((N (40 + i)) 9)), (0, .ref (md 0)), (1, .int (nI i)), (2, .int (nI j))]) hx hb dX7_correction_33 hl (by decide) rfl (fun ls hl => ?_)
    have hml : c.maxLocals = ls.size := hml9.trans hl.1.symm
    refine lv_aload hx hb dX7_correction_35 (lv_at hl 1 rfl) ?_
    refine lv_bipush (v := 10) hx hb dX7_correction_37 (by decide) ?_
    refine k_iald (v := ((N (40 + q)) 10)) hx hb hG (hw.rc hq) (show vp_in (nI 10) 22 from vp_in_nI (by decide) (by decide)) (congrArg (N (40 + q)) (clI 10 (by decide))) dX7_correction_39 ?_
    refine lv_iconst (v := (-1)) hx hb dX7_correction_40 (by decide) ?_
    refine lv_icmp_eq (tgt := 66) hx hb dX7_correction_41 (by decide) (fun c_41 => ?_) (fun c_41 => ?_)
    · refine lv_iconst (v := 0) hx hb dX7_correction_66 (by decide) ?_
      exact ke_i hx hb hr hlk dX7_correction_67 (by unfold mCorr; rw [if_neg c_12, er, nI_clamp (by omega), if_pos c_41])
    · refine lv_aload_n hx hb dX7_correction_44 rfl (lv_at hl 3 rfl) ?_
      refine k_get (ci := 7) (C := RX7) (T := TX7) (N := 20) (v := .int ((N 0) 1)) hx hb hown hG rfl kin_X7 hw.o 1 (by decide) wF_X7_64 rfl dX7_correction_45 ?_
      refine lv_aload hx hb dX7_correction_48 (lv_at hl 1 rfl) ?_
      refine lv_bipush (v := 10) hx hb dX7_correction_50 (by decide) ?_
      refine k_iald (v := ((N (40 + q)) 10)) hx hb hG (hw.rc hq) (show vp_in (nI 10) 22 from vp_in_nI (by decide) (by decide)) (congrArg (N (40 + q)) (clI 10 (by decide))) dX7_correction_52 ?_
      refine lv_isub hx hb dX7_correction_53 ?_
      refine lv_iconst (v := 5) hx hb dX7_correction_54 (by decide) ?_
      refine lv_icmp_gt (tgt := 66) hx hb dX7_correction_55 (by decide) (fun c_55 => ?_) (fun c_55 => ?_)
      · refine lv_iconst (v := 0) hx hb dX7_correction_66 (by decide) ?_
        exact ke_i hx hb hr hlk dX7_correction_67 (by unfold mCorr; rw [if_neg c_12, er, nI_clamp (by omega), if_neg c_41, if_pos c_55])
      · refine lv_aload hx hb dX7_correction_58 (lv_at hl 0 rfl) ?_
        refine lv_bipush (v := 6) hx hb dX7_correction_60 (by decide) ?_
        refine k_iald (v := ((N (60 + 8 * q + j)) 6)) hx hb hG (hw.rw hq hj) (show vp_in (nI 6) 12 from vp_in_nI (by decide) (by decide)) (congrArg (N (60 + 8 * q + j)) (clI 6 (by decide))) dX7_correction_62 ?_
        refine lv_if_ne (tgt := 68) hx hb dX7_correction_63 (by decide) (fun c_63 => ?_) (fun c_63 => ?_)
        · refine lv_iconst (v := 0) hx hb dX7_correction_68 (by decide) ?_
          refine lv_istore (lv' := [(6, .int 0), (5, .ref (md (60 + 8 * q + j))), (4, .ref (md (40 + q))), (3, .int ((N (40 + i)) 9)), (0, .ref (md 0)), (1, .int (nI i)), (2, .int (nI j))]) hx hb dX7_correction_69 hl (by decide) rfl (fun ls hl => ?_)
          have hml : c.maxLocals = ls.size := hml9.trans hl.1.symm
          refine lv_iconst (v := 0) hx hb dX7_correction_71 (by decide) ?_
          refine lv_istore (lv' := [(7, .int 0), (6, .int 0), (5, .ref (md (60 + 8 * q + j))), (4, .ref (md (40 + q))), (3, .int ((N (40 + i)) 9)), (0, .ref (md 0)), (1, .int (nI i)), (2, .int (nI j))]) hx hb dX7_correction_72 hl (by decide) rfl (fun ls hl => ?_)
          have hml : c.maxLocals = ls.size := hml9.trans hl.1.symm
          have lp74_1 : ∀ (n9 : Nat) (k : Nat) (acc : Int32), ns + 1 - k ≤ n9 → k ≤ ns → acc = mSumR N q k →  ∀ ls : Array Slot, lv_has ls 8 [(7, .int (nI k)), (6, .int acc), (5, .ref (md (60 + 8 * q + j))), (4, .ref (md (40 + q))), (3, .int ((N (40 + i)) 9)), (0, .ref (md 0)), (1, .int (nI i)), (2, .int (nI j))] → W p l e ({ frames := 1, cells := 0, slots := 0, locals := 22 } : Room) s m ([.ref (md 0), .int (nI i), .int (nI j)] : List Value).toArray below meth c s.heap [] 0 0 (MQ below (RQi (mCorr N ns i j)) ([.ref (md 0), .int (nI i), .int (nI j)] : List Value).toArray s 0 0 (fun _ => False)) (F0 m 74 ls []) := by
            intro n9
            induction n9 with
            | zero =>
              intro k acc h9
              intro hj; exact absurd h9 (by omega)
            | succ n9 ih9 =>
              intro k acc hn9 hk ea ls hl
              have hml : c.maxLocals = ls.size := hml9.trans hl.1.symm
              refine lv_iload hx hb dX7_correction_74 (lv_at hl 0 rfl) ?_
              refine lv_aload_n hx hb dX7_correction_76 rfl (lv_at hl 5 rfl) ?_
              refine k_get (ci := 7) (C := RX7) (T := TX7) (N := 20) (v := .int ((N 0) 8)) hx hb hown hG rfl kin_X7 hw.o 8 (by decide) wF_X7_79 rfl dX7_correction_77 ?_
              refine lv_icmp_ge (tgt := 126) hx hb dX7_correction_80 (by decide) (fun c_80 => ?_) (fun c_80 => ?_)
              · rw [ens] at c_80
                have enk : k = ns := Nat.le_antisymm hk ((nI_leI (by omega) (by omega)).mp c_80)
                refine lv_aload hx hb dX7_correction_126 (lv_at hl 2 rfl) ?_
                refine lv_bipush (v := 10) hx hb dX7_correction_128 (by decide) ?_
                refine k_iald (v := ((N (60 + 8 * q + j)) 10)) hx hb hG (hw.rw hq hj) (show vp_in (nI 10) 12 from vp_in_nI (by decide) (by decide)) (congrArg (N (60 + 8 * q + j)) (clI 10 (by decide))) dX7_correction_130 ?_
                refine lv_iload hx hb dX7_correction_131 (lv_at hl 1 rfl) ?_
                refine lv_aload hx hb dX7_correction_133 (lv_at hl 3 rfl) ?_
                refine lv_bipush (v := 11) hx hb dX7_correction_135 (by decide) ?_
                refine k_iald (v := ((N (40 + q)) 11)) hx hb hG (hw.rc hq) (show vp_in (nI 11) 22 from vp_in_nI (by decide) (by decide)) (congrArg (N (40 + q)) (clI 11 (by decide))) dX7_correction_137 ?_
                refine kc_i (kr_S (As := [.int acc, .int ((N (40 + q)) 11)]) (rest := [.int ((N (60 + 8 * q + j)) 10)]) hx hb hml hown hG (c_J9_floorDiv_7cf53 l D cy acc ((N (40 + q)) 11) (hre.2 q j hq hj c_63)) cf_J9_floorDiv_7cf53 wM_X7_137 trivial ⟨rfl, rfl, by decide, by decide⟩ rfl rfl (Nat.le_of_ble_eq_true rfl) ⟨Nat.le_of_ble_eq_true rfl, Nat.le_of_ble_eq_true rfl⟩ dX7_correction_138) ?_
                refine lv_isub hx hb dX7_correction_141 ?_
                exact ke_i hx hb hr hlk dX7_correction_142 (by unfold mCorr; rw [if_neg c_12, er, nI_clamp (by omega), if_neg c_41, if_neg c_55, if_neg c_63]; rw [ea, enk])
              · rw [ens] at c_80
                have hltk : k < ns := by
                  rcases Nat.lt_or_ge k ns with q | q
                  · exact q
                  · exact absurd (nI_le q (by omega)) c_80
                have hlt8k : k < 8 := Nat.lt_of_lt_of_le hltk hns8
                refine lv_iload hx hb dX7_correction_83 (lv_at hl 1 rfl) ?_
                refine lv_aload_n hx hb dX7_correction_85 rfl (lv_at hl 5 rfl) ?_
                refine k_get (ci := 7) (C := RX7) (T := TX7) (N := 20) (v := .ref (md 5)) hx hb hown hG rfl kin_X7 hw.o 7 (by decide) wF_X7_25 rfl dX7_correction_86 ?_
                refine lv_iload_n hx hb dX7_correction_89 rfl (lv_at hl 4 rfl) ?_
                refine k_ald2 (v := (md (50 + q))) hx hb hG 6 rfl hw.a5 (by rw [er]; exact vp_in_nI (n := q) hq (by decide)) (by rw [er]; exact mo_ro hq) dX7_correction_90 ?_
                refine lv_iload hx hb dX7_correction_91 (lv_at hl 0 rfl) ?_
                refine k_ald2 (v := (md (60 + 8 * q + k))) hx hb hG 5 rfl (hw.ro hq) (vp_in_nI (n := k) hlt8k (by decide)) (mo_rw (i := q) hlt8k) dX7_correction_93 ?_
                refine lv_bipush (v := 6) hx hb dX7_correction_94 (by decide) ?_
                refine k_iald (v := ((N (60 + 8 * q + k)) 6)) hx hb hG (hw.rw hq hlt8k) (show vp_in (nI 6) 12 from vp_in_nI (by decide) (by decide)) (congrArg (N (60 + 8 * q + k)) (clI 6 (by decide))) dX7_correction_96 ?_
                refine lv_iconst (v := 1) hx hb dX7_correction_97 (by decide) ?_
                refine lv_icmp_ne (tgt := 116) hx hb dX7_correction_98 (by decide) (fun c_98 => ?_) (fun c_98 => ?_)
                · refine lv_iconst (v := 0) hx hb dX7_correction_116 (by decide) ?_
                  refine lv_iadd hx hb dX7_correction_117 ?_
                  refine lv_istore (lv' := [(6, .int (acc + 0)), (7, .int (nI k)), (5, .ref (md (60 + 8 * q + j))), (4, .ref (md (40 + q))), (3, .int ((N (40 + i)) 9)), (0, .ref (md 0)), (1, .int (nI i)), (2, .int (nI j))]) hx hb dX7_correction_118 hl (by decide) rfl (fun ls hl => ?_)
                  have hml : c.maxLocals = ls.size := hml9.trans hl.1.symm
                  refine lv_iinc (v := (nI (k + 1))) (lv' := [(7, .int (nI (k + 1))), (6, .int (acc + 0)), (5, .ref (md (60 + 8 * q + j))), (4, .ref (md (40 + q))), (3, .int ((N (40 + i)) 9)), (0, .ref (md 0)), (1, .int (nI i)), (2, .int (nI j))]) hx hb dX7_correction_120 hl (k := 1) rfl ((nI_succ k).symm) (by decide) rfl (fun ls hl => ?_)
                  have hml : c.maxLocals = ls.size := hml9.trans hl.1.symm
                  refine lv_goto (tgt := 74) hx hb dX7_correction_123 (by decide) ?_
                  exact ih9 (k + 1) (acc + 0) (by omega) hltk (by rw [ea, mSumR_s, if_neg c_98]) ls (lv_sub hl [0, 1, 2, 3, 4, 5, 6, 7] rfl)
                · refine lv_aload_n hx hb dX7_correction_101 rfl (lv_at hl 5 rfl) ?_
                  refine k_get (ci := 7) (C := RX7) (T := TX7) (N := 20) (v := .ref (md 5)) hx hb hown hG rfl kin_X7 hw.o 7 (by decide) wF_X7_25 rfl dX7_correction_102 ?_
                  refine lv_iload_n hx hb dX7_correction_105 rfl (lv_at hl 4 rfl) ?_
                  refine k_ald2 (v := (md (50 + q))) hx hb hG 6 rfl hw.a5 (by rw [er]; exact vp_in_nI (n := q) hq (by decide)) (by rw [er]; exact mo_ro hq) dX7_correction_106 ?_
                  refine lv_iload hx hb dX7_correction_107 (lv_at hl 0 rfl) ?_
                  refine k_ald2 (v := (md (60 + 8 * q + k))) hx hb hG 5 rfl (hw.ro hq) (vp_in_nI (n := k) hlt8k (by decide)) (mo_rw (i := q) hlt8k) dX7_correction_109 ?_
                  refine lv_bipush (v := 10) hx hb dX7_correction_110 (by decide) ?_
                  refine k_iald (v := ((N (60 + 8 * q + k)) 10)) hx hb hG (hw.rw hq hlt8k) (show vp_in (nI 10) 12 from vp_in_nI (by decide) (by decide)) (congrArg (N (60 + 8 * q + k)) (clI 10 (by decide))) dX7_correction_112 ?_
                  refine lv_goto (tgt := 117) hx hb dX7_correction_113 (by decide) ?_
                  refine lv_iadd hx hb dX7_correction_117 ?_
                  refine lv_istore (lv' := [(6, .int (acc + ((N (60 + 8 * q + k)) 10))), (7, .int (nI k)), (5, .ref (md (60 + 8 * q + j))), (4, .ref (md (40 + q))), (3, .int ((N (40 + i)) 9)), (0, .ref (md 0)), (1, .int (nI i)), (2, .int (nI j))]) hx hb dX7_correction_118 hl (by decide) rfl (fun ls hl => ?_)
                  have hml : c.maxLocals = ls.size := hml9.trans hl.1.symm
                  refine lv_iinc (v := (nI (k + 1))) (lv' := [(7, .int (nI (k + 1))), (6, .int (acc + ((N (60 + 8 * q + k)) 10))), (5, .ref (md (60 + 8 * q + j))), (4, .ref (md (40 + q))), (3, .int ((N (40 + i)) 9)), (0, .ref (md 0)), (1, .int (nI i)), (2, .int (nI j))]) hx hb dX7_correction_120 hl (k := 1) rfl ((nI_succ k).symm) (by decide) rfl (fun ls hl => ?_)
                  have hml : c.maxLocals = ls.size := hml9.trans hl.1.symm
                  refine lv_goto (tgt := 74) hx hb dX7_correction_123 (by decide) ?_
                  exact ih9 (k + 1) (acc + ((N (60 + 8 * q + k)) 10)) (by omega) hltk (by rw [ea, mSumR_s, if_pos c_98]) ls (lv_sub hl [0, 1, 2, 3, 4, 5, 6, 7] rfl)
          exact lp74_1 (ns + 1) 0 0 (Nat.le_refl _) (Nat.zero_le _) (by rw [mSumR_0]) ls (lv_sub hl [0, 1, 2, 3, 4, 5, 6, 7] rfl)
        · refine lv_iconst (v := 0) hx hb dX7_correction_66 (by decide) ?_
          exact ke_i hx hb hr hlk dX7_correction_67 (by unfold mCorr; rw [if_neg c_12, er, nI_clamp (by omega), if_neg c_41, if_neg c_55, if_pos c_63])
  · refine lv_iconst (v := 0) hx hb dX7_correction_15 (by decide) ?_
    exact ke_i hx hb hr hlk dX7_correction_16 (by unfold mCorr; rw [if_pos c_12])
