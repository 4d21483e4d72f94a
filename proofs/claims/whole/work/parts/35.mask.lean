set_option maxHeartbeats 4000000 in
set_option maxRecDepth 100000 in
theorem c_X7_is (l : Launch) (D : va_G) (cy : Nat → ClassId) (v lo hi : Int32) : Met l yX7_is [.code yX7_is cX7_is 3 (some .boolean)] ({ frames := 0, cells := 0, slots := 0, locals := 0 } : Room) (PC D cy [.int v, .int lo, .int hi] (fun _ => True)) (RQi (bI (mIs v lo hi))) 0 0 (fun _ => False) := by
  refine k_body (by decide +kernel) (Nat.le_of_ble_eq_true rfl) ?_
  intro p e s m below meth c ls hx hb hml hown hr hlk hmn hl hG hI
  have hml9 : c.maxLocals = 3 := hml.trans hl.1
  have hl : lv_has ls 3 [(0, .int v), (1, .int lo), (2, .int hi)] := hl
  refine lv_iload_n hx hb dX7_is_0 rfl (lv_at hl 0 rfl) ?_
  refine lv_iload_n hx hb dX7_is_1 rfl (lv_at hl 1 rfl) ?_
  refine lv_icmp_lt (tgt := 14) hx hb dX7_is_2 (by decide) (fun c_2 => ?_) (fun c_2 => ?_)
  · refine lv_iconst (v := 0) hx hb dX7_is_14 (by decide) ?_
    exact ke_z hx hb hr hlk dX7_is_15 (by first | rfl | (try delta mIs; simp only [if_pos c_2, bI_true, bI_false]))
  · refine lv_iload_n hx hb dX7_is_5 rfl (lv_at hl 0 rfl) ?_
    refine lv_iload_n hx hb dX7_is_6 rfl (lv_at hl 2 rfl) ?_
    refine lv_icmp_gt (tgt := 14) hx hb dX7_is_7 (by decide) (fun c_7 => ?_) (fun c_7 => ?_)
    · refine lv_iconst (v := 0) hx hb dX7_is_14 (by decide) ?_
      exact ke_z hx hb hr hlk dX7_is_15 (by first | rfl | (try delta mIs; simp only [if_neg c_2, if_pos c_7, bI_true, bI_false]))
    · refine lv_iconst (v := 1) hx hb dX7_is_10 (by decide) ?_
      refine lv_goto (tgt := 15) hx hb dX7_is_11 (by decide) ?_
      exact ke_z hx hb hr hlk dX7_is_15 (by first | rfl | (try delta mIs; simp only [if_neg c_2, if_neg c_7, bI_true, bI_false]))
set_option maxHeartbeats 4000000 in
set_option maxRecDepth 100000 in
theorem c_X7_held (l : Launch) (D : va_G) (cy : Nat → ClassId) (v lim : Int32) : Met l yX7_held [.code yX7_held cX7_held 2 (some .int)] ({ frames := 1, cells := 0, slots := 0, locals := 23 } : Room) (PC D cy [.int v, .int lim] (fun _ => True)) (RQi (pHeld v lim)) 0 0 (fun _ => False) := by
  refine k_body (by decide +kernel) (Nat.le_of_ble_eq_true rfl) ?_
  intro p e s m below meth c ls hx hb hml hown hr hlk hmn hl hG hI
  have hml9 : c.maxLocals = 2 := hml.trans hl.1
  have hl : lv_has ls 2 [(0, .int v), (1, .int lim)] := hl
  refine lv_iload_n hx hb dX7_held_0 rfl (lv_at hl 1 rfl) ?_
  refine lv_ineg hx hb dX7_held_1 ?_
  refine lv_iload_n hx hb dX7_held_2 rfl (lv_at hl 1 rfl) ?_
  refine lv_iload_n hx hb dX7_held_3 rfl (lv_at hl 0 rfl) ?_
  refine k_mmin hx hb hml hown hG wM_X7_45 (Nat.le_of_ble_eq_true rfl) (Nat.le_of_ble_eq_true rfl) (Nat.le_of_ble_eq_true rfl) (Nat.le_of_ble_eq_true rfl) dX7_held_4 ?_
  refine k_mmax hx hb hml hown hG wM_X7_51 (Nat.le_of_ble_eq_true rfl) (Nat.le_of_ble_eq_true rfl) (Nat.le_of_ble_eq_true rfl) (Nat.le_of_ble_eq_true rfl) dX7_held_7 ?_
  exact ke_i hx hb hr hlk dX7_held_10 (by first | rfl | (try delta pHeld; simp only [bI_true, bI_false]))
set_option maxHeartbeats 4000000 in
set_option maxRecDepth 100000 in
theorem c_X7_tOf (l : Launch) (D : va_G) (cy : Nat → ClassId) (ph : Int32) : Met l yX7_tOf [.code yX7_tOf cX7_tOf 2 (some .int)] ({ frames := 1, cells := 0, slots := 0, locals := 22 } : Room) (PC D cy [.int ph] (fun _ => True)) (RQi (pT (pFMod ph 48))) 0 0 (fun _ => False) := by
  refine k_body (by decide +kernel) (Nat.le_of_ble_eq_true rfl) ?_
  intro p e s m below meth c ls hx hb hml hown hr hlk hmn hl hG hI
  have hml9 : c.maxLocals = 2 := hml.trans hl.1
  have hl : lv_has ls 2 [(0, .int ph)] := hl
  refine lv_iload_n hx hb dX7_tOf_0 rfl (lv_at hl 0 rfl) ?_
  refine lv_bipush (v := 48) hx hb dX7_tOf_1 (by decide) ?_
  refine kc_i (kr_S (As := [.int ph, .int 48]) (rest := []) hx hb hml hown hG (c_J9_floorMod_7cf53 l D cy ph 48 (by decide)) cf_J9_floorMod_7cf53 wM_X7_54 trivial ⟨rfl, rfl, by decide, by decide⟩ rfl rfl (Nat.le_of_ble_eq_true rfl) ⟨Nat.le_of_ble_eq_true rfl, Nat.le_of_ble_eq_true rfl⟩ dX7_tOf_3) ?_
  refine lv_istore_n (lv' := [(1, .int (pFMod ph 48)), (0, .int ph)]) hx hb dX7_tOf_6 rfl hl (by decide) rfl (fun ls hl => ?_)
  have hml : c.maxLocals = ls.size := hml9.trans hl.1.symm
  refine lv_iload_n hx hb dX7_tOf_7 rfl (lv_at hl 0 rfl) ?_
  refine lv_bipush (v := 12) hx hb dX7_tOf_8 (by decide) ?_
  refine lv_icmp_gt (tgt := 17) hx hb dX7_tOf_10 (by decide) (fun c_10 => ?_) (fun c_10 => ?_)
  · refine lv_iload_n hx hb dX7_tOf_17 rfl (lv_at hl 0 rfl) ?_
    refine lv_bipush (v := 36) hx hb dX7_tOf_18 (by decide) ?_
    refine lv_icmp_gt (tgt := 30) hx hb dX7_tOf_20 (by decide) (fun c_20 => ?_) (fun c_20 => ?_)
    · refine lv_iload_n hx hb dX7_tOf_30 rfl (lv_at hl 0 rfl) ?_
      refine lv_bipush (v := 48) hx hb dX7_tOf_31 (by decide) ?_
      refine lv_isub hx hb dX7_tOf_33 ?_
      exact ke_i hx hb hr hlk dX7_tOf_34 (by first | rfl | (try delta pT; simp only [if_pos c_10, if_pos c_20, bI_true, bI_false]))
    · refine lv_bipush (v := 24) hx hb dX7_tOf_23 (by decide) ?_
      refine lv_iload_n hx hb dX7_tOf_25 rfl (lv_at hl 0 rfl) ?_
      refine lv_isub hx hb dX7_tOf_26 ?_
      refine lv_goto (tgt := 34) hx hb dX7_tOf_27 (by decide) ?_
      exact ke_i hx hb hr hlk dX7_tOf_34 (by first | rfl | (try delta pT; simp only [if_pos c_10, if_neg c_20, bI_true, bI_false]))
  · refine lv_iload_n hx hb dX7_tOf_13 rfl (lv_at hl 0 rfl) ?_
    refine lv_goto (tgt := 34) hx hb dX7_tOf_14 (by decide) ?_
    exact ke_i hx hb hr hlk dX7_tOf_34 (by first | rfl | (try delta pT; simp only [if_neg c_10, bI_true, bI_false]))
set_option maxHeartbeats 4000000 in
set_option maxRecDepth 100000 in
theorem c_X7_range (l : Launch) (D : va_G) (cy : Nat → ClassId) (x y u v : Int32) : Met l yX7_range [.code yX7_range cX7_range 4 (some .int)] ({ frames := 1, cells := 0, slots := 0, locals := 23 } : Room) (PC D cy [.int x, .int y, .int u, .int v] (fun _ => True)) (RQi (pRange x y u v)) 0 0 (fun _ => False) := by
  refine k_body (by decide +kernel) (Nat.le_of_ble_eq_true rfl) ?_
  intro p e s m below meth c ls hx hb hml hown hr hlk hmn hl hG hI
  have hml9 : c.maxLocals = 4 := hml.trans hl.1
  have hl : lv_has ls 4 [(0, .int x), (1, .int y), (2, .int u), (3, .int v)] := hl
  refine lv_iload_n hx hb dX7_range_0 rfl (lv_at hl 0 rfl) ?_
  refine lv_iload_n hx hb dX7_range_1 rfl (lv_at hl 2 rfl) ?_
  refine lv_isub hx hb dX7_range_2 ?_
  refine k_mabs hx hb hml hown hG wM_X7_61 (Nat.le_of_ble_eq_true rfl) (Nat.le_of_ble_eq_true rfl) (Nat.le_of_ble_eq_true rfl) (Nat.le_of_ble_eq_true rfl) dX7_range_3 ?_
  refine lv_iload_n hx hb dX7_range_6 rfl (lv_at hl 1 rfl) ?_
  refine lv_iload_n hx hb dX7_range_7 rfl (lv_at hl 3 rfl) ?_
  refine lv_isub hx hb dX7_range_8 ?_
  refine k_mabs hx hb hml hown hG wM_X7_61 (Nat.le_of_ble_eq_true rfl) (Nat.le_of_ble_eq_true rfl) (Nat.le_of_ble_eq_true rfl) (Nat.le_of_ble_eq_true rfl) dX7_range_9 ?_
  refine k_mmax hx hb hml hown hG wM_X7_51 (Nat.le_of_ble_eq_true rfl) (Nat.le_of_ble_eq_true rfl) (Nat.le_of_ble_eq_true rfl) (Nat.le_of_ble_eq_true rfl) dX7_range_12 ?_
  exact ke_i hx hb hr hlk dX7_range_15 (by first | rfl | (try delta pRange; simp only [bI_true, bI_false]))
set_option maxHeartbeats 4000000 in
set_option maxRecDepth 100000 in
theorem c_X7_isPlace (l : Launch) (D : va_G) (cy : Nat → ClassId) (x y : Int32) : Met l yX7_isPlace [.code yX7_isPlace cX7_isPlace 2 (some .boolean)] ({ frames := 1, cells := 0, slots := 0, locals := 22 } : Room) (PC D cy [.int x, .int y] (fun _ => True)) (RQi (bI (mPlace x y))) 0 0 (fun _ => False) := by
  refine k_body (by decide +kernel) (Nat.le_of_ble_eq_true rfl) ?_
  intro p e s m below meth c ls hx hb hml hown hr hlk hmn hl hG hI
  have hml9 : c.maxLocals = 2 := hml.trans hl.1
  have hl : lv_has ls 2 [(0, .int x), (1, .int y)] := hl
  refine lv_iload_n hx hb dX7_isPlace_0 rfl (lv_at hl 0 rfl) ?_
  refine lv_bipush (v := (-12)) hx hb dX7_isPlace_1 (by decide) ?_
  refine lv_bipush (v := 12) hx hb dX7_isPlace_3 (by decide) ?_
  refine kc_i (kr_S (As := [.int x, .int (-12), .int 12]) (rest := []) hx hb hml hown hG (c_X7_is l D cy x (-12) 12) cf_X7_is wM_X7_86 trivial ⟨rfl, rfl, by decide, by decide⟩ rfl rfl (Nat.le_of_ble_eq_true rfl) ⟨Nat.le_of_ble_eq_true rfl, Nat.le_of_ble_eq_true rfl⟩ dX7_isPlace_5) ?_
  refine lv_if_eq (tgt := 25) hx hb dX7_isPlace_8 (by decide) (fun c_8 => ?_) (fun c_8 => ?_)
  · refine lv_iconst (v := 0) hx hb dX7_isPlace_25 (by decide) ?_
    exact ke_z hx hb hr hlk dX7_isPlace_26 (by first | rfl | (try delta mPlace; simp only [if_pos c_8, bI_true, bI_false]))
  · refine lv_iload_n hx hb dX7_isPlace_11 rfl (lv_at hl 1 rfl) ?_
    refine lv_iconst (v := 0) hx hb dX7_isPlace_12 (by decide) ?_
    refine lv_bipush (v := 12) hx hb dX7_isPlace_13 (by decide) ?_
    refine kc_i (kr_S (As := [.int y, .int 0, .int 12]) (rest := []) hx hb hml hown hG (c_X7_is l D cy y 0 12) cf_X7_is wM_X7_86 trivial ⟨rfl, rfl, by decide, by decide⟩ rfl rfl (Nat.le_of_ble_eq_true rfl) ⟨Nat.le_of_ble_eq_true rfl, Nat.le_of_ble_eq_true rfl⟩ dX7_isPlace_15) ?_
    refine lv_if_eq (tgt := 25) hx hb dX7_isPlace_18 (by decide) (fun c_18 => ?_) (fun c_18 => ?_)
    · refine lv_iconst (v := 0) hx hb dX7_isPlace_25 (by decide) ?_
      exact ke_z hx hb hr hlk dX7_isPlace_26 (by first | rfl | (try delta mPlace; simp only [if_neg c_8, if_pos c_18, bI_true, bI_false]))
    · refine lv_iconst (v := 1) hx hb dX7_isPlace_21 (by decide) ?_
      refine lv_goto (tgt := 26) hx hb dX7_isPlace_22 (by decide) ?_
      exact ke_z hx hb hr hlk dX7_isPlace_26 (by first | rfl | (try delta mPlace; simp only [if_neg c_8, if_neg c_18, bI_true, bI_false]))
set_option maxHeartbeats 4000000 in
set_option maxRecDepth 100000 in
theorem c_X7_thrown (l : Launch) (D : va_G) (cy : Nat → ClassId) (md : Nat → Nat) (N : Nat → Nat → Int32) (co su : Int64) : Met l yX7_thrown [.code yX7_thrown cX7_thrown 1 (some .int)] ({ frames := 0, cells := 0, slots := 0, locals := 0 } : Room) (PC D cy [.ref (md 0)] (fun H => MW D cy md N co su H)) (RQi (N 0 0)) 0 0 (fun _ => False) := by
  refine k_body (by decide +kernel) (Nat.le_of_ble_eq_true rfl) ?_
  intro p e s m below meth c ls hx hb hml hown hr hlk hmn hl hG hI
  have hml9 : c.maxLocals = 1 := hml.trans hl.1
  have hl : lv_has ls 1 [(0, .ref (md 0))] := hl
  have hw := hI
  refine lv_aload_n hx hb dX7_thrown_0 rfl (lv_at hl 0 rfl) ?_
  refine k_get (ci := 7) (C := RX7) (T := TX7) (N := 20) (v := .int ((N 0) 0)) hx hb hown hG rfl kin_X7 hw.o 0 (by decide) wF_X7_41 rfl dX7_thrown_1 ?_
  exact ke_i hx hb hr hlk dX7_thrown_4 (by first | rfl | (try delta mO; simp only [bI_true, bI_false]))
set_option maxHeartbeats 4000000 in
set_option maxRecDepth 100000 in
theorem c_X7_xAt (l : Launch) (D : va_G) (cy : Nat → ClassId) (md : Nat → Nat) (N : Nat → Nat → Int32) (co su : Int64) (i : Nat) (hi : i < 8) (ph : Int32) : Met l yX7_xAt [.code yX7_xAt cX7_xAt 3 (some .int)] ({ frames := 2, cells := 0, slots := 0, locals := 43 } : Room) (PC D cy [.ref (md 0), .int (nI i), .int ph] (fun H => MW D cy md N co su H)) (RQi (mX (N (10 + i)) ph)) 0 0 (fun _ => False) := by
  refine k_body (by decide +kernel) (Nat.le_of_ble_eq_true rfl) ?_
  intro p e s m below meth c ls hx hb hml hown hr hlk hmn hl hG hI
  have hml9 : c.maxLocals = 3 := hml.trans hl.1
  have hl : lv_has ls 3 [(0, .ref (md 0)), (1, .int (nI i)), (2, .int ph)] := hl
  have hw := hI
  refine lv_aload_n hx hb dX7_xAt_0 rfl (lv_at hl 0 rfl) ?_
  refine k_get (ci := 7) (C := RX7) (T := TX7) (N := 20) (v := .ref (md 1)) hx hb hown hG rfl kin_X7 hw.o 3 (by decide) wF_X7_11 rfl dX7_xAt_1 ?_
  refine lv_iload_n hx hb dX7_xAt_4 rfl (lv_at hl 1 rfl) ?_
  refine k_ald2 (v := (md (10 + i))) hx hb hG 5 rfl hw.a1 (vp_in_nI (n := i) hi (by decide)) (mo_st hi) dX7_xAt_5 ?_
  refine lv_iconst (v := 0) hx hb dX7_xAt_6 (by decide) ?_
  refine k_iald (v := ((N (10 + i)) 0)) hx hb hG (hw.st hi) (show vp_in (nI 0) 6 from vp_in_nI (by decide) (by decide)) (congrArg (N (10 + i)) (clI 0 (by decide))) dX7_xAt_7 ?_
  refine lv_iload_n hx hb dX7_xAt_8 rfl (lv_at hl 2 rfl) ?_
  refine kc_i (kr_S (As := [.int ph]) (rest := [.int ((N (10 + i)) 0)]) hx hb hml hown hG (c_X7_tOf l D cy ph) cf_X7_tOf wM_X7_57 trivial ⟨rfl, rfl, by decide, by decide⟩ rfl rfl (Nat.le_of_ble_eq_true rfl) ⟨Nat.le_of_ble_eq_true rfl, Nat.le_of_ble_eq_true rfl⟩ dX7_xAt_9) ?_
  refine lv_imul hx hb dX7_xAt_12 ?_
  refine lv_bipush (v := 12) hx hb dX7_xAt_13 (by decide) ?_
  refine lv_idiv hx hb dX7_xAt_15 (by decide) ?_
  exact ke_i hx hb hr hlk dX7_xAt_16 (by first | rfl | (try delta mX; simp only [bI_true, bI_false]))
set_option maxHeartbeats 4000000 in
set_option maxRecDepth 100000 in
theorem c_X7_yAt (l : Launch) (D : va_G) (cy : Nat → ClassId) (md : Nat → Nat) (N : Nat → Nat → Int32) (co su : Int64) (i : Nat) (hi : i < 8) (ph : Int32) : Met l yX7_yAt [.code yX7_yAt cX7_yAt 3 (some .int)] ({ frames := 2, cells := 0, slots := 0, locals := 43 } : Room) (PC D cy [.ref (md 0), .int (nI i), .int ph] (fun H => MW D cy md N co su H)) (RQi (mY (N (10 + i)) ph)) 0 0 (fun _ => False) := by
  refine k_body (by decide +kernel) (Nat.le_of_ble_eq_true rfl) ?_
  intro p e s m below meth c ls hx hb hml hown hr hlk hmn hl hG hI
  have hml9 : c.maxLocals = 3 := hml.trans hl.1
  have hl : lv_has ls 3 [(0, .ref (md 0)), (1, .int (nI i)), (2, .int ph)] := hl
  have hw := hI
  refine lv_aload_n hx hb dX7_yAt_0 rfl (lv_at hl 0 rfl) ?_
  refine k_get (ci := 7) (C := RX7) (T := TX7) (N := 20) (v := .ref (md 1)) hx hb hown hG rfl kin_X7 hw.o 3 (by decide) wF_X7_11 rfl dX7_yAt_1 ?_
  refine lv_iload_n hx hb dX7_yAt_4 rfl (lv_at hl 1 rfl) ?_
  refine k_ald2 (v := (md (10 + i))) hx hb hG 5 rfl hw.a1 (vp_in_nI (n := i) hi (by decide)) (mo_st hi) dX7_yAt_5 ?_
  refine lv_iconst (v := 0) hx hb dX7_yAt_6 (by decide) ?_
  refine k_iald (v := ((N (10 + i)) 0)) hx hb hG (hw.st hi) (show vp_in (nI 0) 6 from vp_in_nI (by decide) (by decide)) (congrArg (N (10 + i)) (clI 0 (by decide))) dX7_yAt_7 ?_
  refine lv_iload_n hx hb dX7_yAt_8 rfl (lv_at hl 2 rfl) ?_
  refine lv_bipush (v := 12) hx hb dX7_yAt_9 (by decide) ?_
  refine lv_iadd hx hb dX7_yAt_11 ?_
  refine kc_i (kr_S (As := [.int (ph + 12)]) (rest := [.int ((N (10 + i)) 0)]) hx hb hml hown hG (c_X7_tOf l D cy (ph + 12)) cf_X7_tOf wM_X7_57 trivial ⟨rfl, rfl, by decide, by decide⟩ rfl rfl (Nat.le_of_ble_eq_true rfl) ⟨Nat.le_of_ble_eq_true rfl, Nat.le_of_ble_eq_true rfl⟩ dX7_yAt_12) ?_
  refine lv_imul hx hb dX7_yAt_15 ?_
  refine lv_bipush (v := 12) hx hb dX7_yAt_16 (by decide) ?_
  refine lv_idiv hx hb dX7_yAt_18 (by decide) ?_
  exact ke_i hx hb hr hlk dX7_yAt_19 (by first | rfl | (try delta mY; simp only [bI_true, bI_false]))
set_option maxHeartbeats 4000000 in
set_option maxRecDepth 100000 in
theorem c_X7_phaseIn (l : Launch) (D : va_G) (cy : Nat → ClassId) (md : Nat → Nat) (N : Nat → Nat → Int32) (co su : Int64) (i : Nat) (hi : i < 8) (k : Int32) : Met l yX7_phaseIn [.code yX7_phaseIn cX7_phaseIn 3 (some .int)] ({ frames := 0, cells := 0, slots := 0, locals := 0 } : Room) (PC D cy [.ref (md 0), .int (nI i), .int k] (fun H => MW D cy md N co su H)) (RQi (mPh (N (10 + i)) k)) 0 0 (fun _ => False) := by
  refine k_body (by decide +kernel) (Nat.le_of_ble_eq_true rfl) ?_
  intro p e s m below meth c ls hx hb hml hown hr hlk hmn hl hG hI
  have hml9 : c.maxLocals = 3 := hml.trans hl.1
  have hl : lv_has ls 3 [(0, .ref (md 0)), (1, .int (nI i)), (2, .int k)] := hl
  have hw := hI
  refine lv_aload_n hx hb dX7_phaseIn_0 rfl (lv_at hl 0 rfl) ?_
  refine k_get (ci := 7) (C := RX7) (T := TX7) (N := 20) (v := .ref (md 1)) hx hb hown hG rfl kin_X7 hw.o 3 (by decide) wF_X7_11 rfl dX7_phaseIn_1 ?_
  refine lv_iload_n hx hb dX7_phaseIn_4 rfl (lv_at hl 1 rfl) ?_
  refine k_ald2 (v := (md (10 + i))) hx hb hG 5 rfl hw.a1 (vp_in_nI (n := i) hi (by decide)) (mo_st hi) dX7_phaseIn_5 ?_
  refine lv_iconst (v := 1) hx hb dX7_phaseIn_6 (by decide) ?_
  refine k_iald (v := ((N (10 + i)) 1)) hx hb hG (hw.st hi) (show vp_in (nI 1) 6 from vp_in_nI (by decide) (by decide)) (congrArg (N (10 + i)) (clI 1 (by decide))) dX7_phaseIn_7 ?_
  refine lv_iload_n hx hb dX7_phaseIn_8 rfl (lv_at hl 2 rfl) ?_
  refine lv_aload_n hx hb dX7_phaseIn_9 rfl (lv_at hl 0 rfl) ?_
  refine k_get (ci := 7) (C := RX7) (T := TX7) (N := 20) (v := .ref (md 1)) hx hb hown hG rfl kin_X7 hw.o 3 (by decide) wF_X7_11 rfl dX7_phaseIn_10 ?_
  refine lv_iload_n hx hb dX7_phaseIn_13 rfl (lv_at hl 1 rfl) ?_
  refine k_ald2 (v := (md (10 + i))) hx hb hG 5 rfl hw.a1 (vp_in_nI (n := i) hi (by decide)) (mo_st hi) dX7_phaseIn_14 ?_
  refine lv_iconst (v := 2) hx hb dX7_phaseIn_15 (by decide) ?_
  refine k_iald (v := ((N (10 + i)) 2)) hx hb hG (hw.st hi) (show vp_in (nI 2) 6 from vp_in_nI (by decide) (by decide)) (congrArg (N (10 + i)) (clI 2 (by decide))) dX7_phaseIn_16 ?_
  refine lv_imul hx hb dX7_phaseIn_17 ?_
  refine lv_iadd hx hb dX7_phaseIn_18 ?_
  exact ke_i hx hb hr hlk dX7_phaseIn_19 (by first | rfl | (try delta mPh; simp only [bI_true, bI_false]))
set_option maxHeartbeats 4000000 in
set_option maxRecDepth 100000 in
theorem c_X7_since (l : Launch) (D : va_G) (cy : Nat → ClassId) (md : Nat → Nat) (N : Nat → Nat → Int32) (co su : Int64) (i : Nat) (hi : i < 8) : Met l yX7_since [.code yX7_since cX7_since 2 (some .int)] ({ frames := 0, cells := 0, slots := 0, locals := 0 } : Room) (PC D cy [.ref (md 0), .int (nI i)] (fun H => MW D cy md N co su H)) (RQi (N 0 1 - N (20 + i) 1)) 0 0 (fun _ => False) := by
  refine k_body (by decide +kernel) (Nat.le_of_ble_eq_true rfl) ?_
  intro p e s m below meth c ls hx hb hml hown hr hlk hmn hl hG hI
  have hml9 : c.maxLocals = 2 := hml.trans hl.1
  have hl : lv_has ls 2 [(0, .ref (md 0)), (1, .int (nI i))] := hl
  have hw := hI
  refine lv_aload_n hx hb dX7_since_0 rfl (lv_at hl 0 rfl) ?_
  refine k_get (ci := 7) (C := RX7) (T := TX7) (N := 20) (v := .int ((N 0) 1)) hx hb hown hG rfl kin_X7 hw.o 1 (by decide) wF_X7_64 rfl dX7_since_1 ?_
  refine lv_aload_n hx hb dX7_since_4 rfl (lv_at hl 0 rfl) ?_
  refine k_get (ci := 7) (C := RX7) (T := TX7) (N := 20) (v := .ref (md 2)) hx hb hown hG rfl kin_X7 hw.o 4 (by decide) wF_X7_14 rfl dX7_since_5 ?_
  refine lv_iload_n hx hb dX7_since_8 rfl (lv_at hl 1 rfl) ?_
  refine k_ald2 (v := (md (20 + i))) hx hb hG 5 rfl hw.a2 (vp_in_nI (n := i) hi (by decide)) (mo_ms hi) dX7_since_9 ?_
  refine lv_iconst (v := 1) hx hb dX7_since_10 (by decide) ?_
  refine k_iald (v := ((N (20 + i)) 1)) hx hb hG (hw.ms hi) (show vp_in (nI 1) 5 from vp_in_nI (by decide) (by decide)) (congrArg (N (20 + i)) (clI 1 (by decide))) dX7_since_11 ?_
  refine lv_isub hx hb dX7_since_12 ?_
  exact ke_i hx hb hr hlk dX7_since_13 (by first | rfl | (try delta mO; simp only [bI_true, bI_false]))
set_option maxHeartbeats 4000000 in
set_option maxRecDepth 100000 in
theorem c_X7_toldPhase (l : Launch) (D : va_G) (cy : Nat → ClassId) (md : Nat → Nat) (N : Nat → Nat → Int32) (co su : Int64) (i : Nat) (hi : i < 8) : Met l yX7_toldPhase [.code yX7_toldPhase cX7_toldPhase 2 (some .int)] ({ frames := 1, cells := 0, slots := 0, locals := 21 } : Room) (PC D cy [.ref (md 0), .int (nI i)] (fun H => MW D cy md N co su H)) (RQi (mTP (N 0 1) (N (10 + i)) (N (20 + i)))) 0 0 (fun _ => False) := by
  refine k_body (by decide +kernel) (Nat.le_of_ble_eq_true rfl) ?_
  intro p e s m below meth c ls hx hb hml hown hr hlk hmn hl hG hI
  have hml9 : c.maxLocals = 2 := hml.trans hl.1
  have hl : lv_has ls 2 [(0, .ref (md 0)), (1, .int (nI i))] := hl
  have hw := hI
  refine lv_aload_n hx hb dX7_toldPhase_0 rfl (lv_at hl 0 rfl) ?_
  refine k_get (ci := 7) (C := RX7) (T := TX7) (N := 20) (v := .ref (md 2)) hx hb hown hG rfl kin_X7 hw.o 4 (by decide) wF_X7_14 rfl dX7_toldPhase_1 ?_
  refine lv_iload_n hx hb dX7_toldPhase_4 rfl (lv_at hl 1 rfl) ?_
  refine k_ald2 (v := (md (20 + i))) hx hb hG 5 rfl hw.a2 (vp_in_nI (n := i) hi (by decide)) (mo_ms hi) dX7_toldPhase_5 ?_
  refine lv_iconst (v := 2) hx hb dX7_toldPhase_6 (by decide) ?_
  refine k_iald (v := ((N (20 + i)) 2)) hx hb hG (hw.ms hi) (show vp_in (nI 2) 5 from vp_in_nI (by decide) (by decide)) (congrArg (N (20 + i)) (clI 2 (by decide))) dX7_toldPhase_7 ?_
  refine lv_aload_n hx hb dX7_toldPhase_8 rfl (lv_at hl 0 rfl) ?_
  refine lv_iload_n hx hb dX7_toldPhase_9 rfl (lv_at hl 1 rfl) ?_
  refine kc_i (kr_V (As := [.int (nI i)]) (rest := [.int ((N (20 + i)) 2)]) hx hb hml hown hG (c_X7_since l D cy md N co su i hi) cf_X7_since wM_X7_67 hw.o rfl hw ⟨rfl, rfl, by decide, by decide⟩ rfl rfl (Nat.le_of_ble_eq_true rfl) ⟨Nat.le_of_ble_eq_true rfl, Nat.le_of_ble_eq_true rfl⟩ dX7_toldPhase_10) ?_
  refine lv_aload_n hx hb dX7_toldPhase_13 rfl (lv_at hl 0 rfl) ?_
  refine k_get (ci := 7) (C := RX7) (T := TX7) (N := 20) (v := .ref (md 1)) hx hb hown hG rfl kin_X7 hw.o 3 (by decide) wF_X7_11 rfl dX7_toldPhase_14 ?_
  refine lv_iload_n hx hb dX7_toldPhase_17 rfl (lv_at hl 1 rfl) ?_
  refine k_ald2 (v := (md (10 + i))) hx hb hG 5 rfl hw.a1 (vp_in_nI (n := i) hi (by decide)) (mo_st hi) dX7_toldPhase_18 ?_
  refine lv_iconst (v := 2) hx hb dX7_toldPhase_19 (by decide) ?_
  refine k_iald (v := ((N (10 + i)) 2)) hx hb hG (hw.st hi) (show vp_in (nI 2) 6 from vp_in_nI (by decide) (by decide)) (congrArg (N (10 + i)) (clI 2 (by decide))) dX7_toldPhase_20 ?_
  refine lv_imul hx hb dX7_toldPhase_21 ?_
  refine lv_iadd hx hb dX7_toldPhase_22 ?_
  exact ke_i hx hb hr hlk dX7_toldPhase_23 (by first | rfl | (try delta mTP; simp only [bI_true, bI_false]))
set_option maxHeartbeats 4000000 in
set_option maxRecDepth 100000 in
theorem c_X7_toldOffset (l : Launch) (D : va_G) (cy : Nat → ClassId) (md : Nat → Nat) (N : Nat → Nat → Int32) (co su : Int64) (i : Nat) (hi : i < 8) : Met l yX7_toldOffset [.code yX7_toldOffset cX7_toldOffset 2 (some .int)] ({ frames := 1, cells := 0, slots := 0, locals := 21 } : Room) (PC D cy [.ref (md 0), .int (nI i)] (fun H => MW D cy md N co su H)) (RQi (mTO (N 0 1) (N (20 + i)))) 0 0 (fun _ => False) := by
  refine k_body (by decide +kernel) (Nat.le_of_ble_eq_true rfl) ?_
  intro p e s m below meth c ls hx hb hml hown hr hlk hmn hl hG hI
  have hml9 : c.maxLocals = 2 := hml.trans hl.1
  have hl : lv_has ls 2 [(0, .ref (md 0)), (1, .int (nI i))] := hl
  have hw := hI
  refine lv_aload_n hx hb dX7_toldOffset_0 rfl (lv_at hl 0 rfl) ?_
  refine k_get (ci := 7) (C := RX7) (T := TX7) (N := 20) (v := .ref (md 2)) hx hb hown hG rfl kin_X7 hw.o 4 (by decide) wF_X7_14 rfl dX7_toldOffset_1 ?_
  refine lv_iload_n hx hb dX7_toldOffset_4 rfl (lv_at hl 1 rfl) ?_
  refine k_ald2 (v := (md (20 + i))) hx hb hG 5 rfl hw.a2 (vp_in_nI (n := i) hi (by decide)) (mo_ms hi) dX7_toldOffset_5 ?_
  refine lv_iconst (v := 3) hx hb dX7_toldOffset_6 (by decide) ?_
  refine k_iald (v := ((N (20 + i)) 3)) hx hb hG (hw.ms hi) (show vp_in (nI 3) 5 from vp_in_nI (by decide) (by decide)) (congrArg (N (20 + i)) (clI 3 (by decide))) dX7_toldOffset_7 ?_
  refine lv_aload_n hx hb dX7_toldOffset_8 rfl (lv_at hl 0 rfl) ?_
  refine lv_iload_n hx hb dX7_toldOffset_9 rfl (lv_at hl 1 rfl) ?_
  refine kc_i (kr_V (As := [.int (nI i)]) (rest := [.int ((N (20 + i)) 3)]) hx hb hml hown hG (c_X7_since l D cy md N co su i hi) cf_X7_since wM_X7_67 hw.o rfl hw ⟨rfl, rfl, by decide, by decide⟩ rfl rfl (Nat.le_of_ble_eq_true rfl) ⟨Nat.le_of_ble_eq_true rfl, Nat.le_of_ble_eq_true rfl⟩ dX7_toldOffset_10) ?_
  refine lv_aload_n hx hb dX7_toldOffset_13 rfl (lv_at hl 0 rfl) ?_
  refine k_get (ci := 7) (C := RX7) (T := TX7) (N := 20) (v := .ref (md 2)) hx hb hown hG rfl kin_X7 hw.o 4 (by decide) wF_X7_14 rfl dX7_toldOffset_14 ?_
  refine lv_iload_n hx hb dX7_toldOffset_17 rfl (lv_at hl 1 rfl) ?_
  refine k_ald2 (v := (md (20 + i))) hx hb hG 5 rfl hw.a2 (vp_in_nI (n := i) hi (by decide)) (mo_ms hi) dX7_toldOffset_18 ?_
  refine lv_iconst (v := 4) hx hb dX7_toldOffset_19 (by decide) ?_
  refine k_iald (v := ((N (20 + i)) 4)) hx hb hG (hw.ms hi) (show vp_in (nI 4) 5 from vp_in_nI (by decide) (by decide)) (congrArg (N (20 + i)) (clI 4 (by decide))) dX7_toldOffset_20 ?_
  refine lv_imul hx hb dX7_toldOffset_21 ?_
  refine lv_iadd hx hb dX7_toldOffset_22 ?_
  exact ke_i hx hb hr hlk dX7_toldOffset_23 (by first | rfl | (try delta mTO; simp only [bI_true, bI_false]))
set_option maxHeartbeats 4000000 in
set_option maxRecDepth 100000 in
theorem c_X7_holds (l : Launch) (D : va_G) (cy : Nat → ClassId) (md : Nat → Nat) (N : Nat → Nat → Int32) (co su : Int64) (i : Nat) (hi : i < 8) : Met l yX7_holds [.code yX7_holds cX7_holds 2 (some .boolean)] ({ frames := 1, cells := 0, slots := 0, locals := 21 } : Room) (PC D cy [.ref (md 0), .int (nI i)] (fun H => MW D cy md N co su H)) (RQi (bI (mHolds (N 0 1) (N (20 + i))))) 0 0 (fun _ => False) := by
  refine k_body (by decide +kernel) (Nat.le_of_ble_eq_true rfl) ?_
  intro p e s m below meth c ls hx hb hml hown hr hlk hmn hl hG hI
  have hml9 : c.maxLocals = 2 := hml.trans hl.1
  have hl : lv_has ls 2 [(0, .ref (md 0)), (1, .int (nI i))] := hl
  have hw := hI
  refine lv_aload_n hx hb dX7_holds_0 rfl (lv_at hl 0 rfl) ?_
  refine k_get (ci := 7) (C := RX7) (T := TX7) (N := 20) (v := .ref (md 2)) hx hb hown hG rfl kin_X7 hw.o 4 (by decide) wF_X7_14 rfl dX7_holds_1 ?_
  refine lv_iload_n hx hb dX7_holds_4 rfl (lv_at hl 1 rfl) ?_
  refine k_ald2 (v := (md (20 + i))) hx hb hG 5 rfl hw.a2 (vp_in_nI (n := i) hi (by decide)) (mo_ms hi) dX7_holds_5 ?_
  refine lv_iconst (v := 0) hx hb dX7_holds_6 (by decide) ?_
  refine k_iald (v := ((N (20 + i)) 0)) hx hb hG (hw.ms hi) (show vp_in (nI 0) 5 from vp_in_nI (by decide) (by decide)) (congrArg (N (20 + i)) (clI 0 (by decide))) dX7_holds_7 ?_
  refine lv_if_le (tgt := 25) hx hb dX7_holds_8 (by decide) (fun c_8 => ?_) (fun c_8 => ?_)
  · refine lv_iconst (v := 0) hx hb dX7_holds_25 (by decide) ?_
    exact ke_z hx hb hr hlk dX7_holds_26 (by first | rfl | (try delta mHolds; simp only [if_pos c_8, bI_true, bI_false]))
  · refine lv_aload_n hx hb dX7_holds_11 rfl (lv_at hl 0 rfl) ?_
    refine lv_iload_n hx hb dX7_holds_12 rfl (lv_at hl 1 rfl) ?_
    refine kc_i (kr_V (As := [.int (nI i)]) (rest := []) hx hb hml hown hG (c_X7_since l D cy md N co su i hi) cf_X7_since wM_X7_67 hw.o rfl hw ⟨rfl, rfl, by decide, by decide⟩ rfl rfl (Nat.le_of_ble_eq_true rfl) ⟨Nat.le_of_ble_eq_true rfl, Nat.le_of_ble_eq_true rfl⟩ dX7_holds_13) ?_
    refine lv_bipush (v := 12) hx hb dX7_holds_16 (by decide) ?_
    refine lv_icmp_gt (tgt := 25) hx hb dX7_holds_18 (by decide) (fun c_18 => ?_) (fun c_18 => ?_)
    · refine lv_iconst (v := 0) hx hb dX7_holds_25 (by decide) ?_
      exact ke_z hx hb hr hlk dX7_holds_26 (by first | rfl | (try delta mHolds; simp only [if_neg c_8, if_pos c_18, bI_true, bI_false]))
    · refine lv_iconst (v := 1) hx hb dX7_holds_21 (by decide) ?_
      refine lv_goto (tgt := 26) hx hb dX7_holds_22 (by decide) ?_
      exact ke_z hx hb hr hlk dX7_holds_26 (by first | rfl | (try delta mHolds; simp only [if_neg c_8, if_neg c_18, bI_true, bI_false]))
set_option maxHeartbeats 4000000 in
set_option maxRecDepth 100000 in
theorem c_X7_isStar (l : Launch) (D : va_G) (cy : Nat → ClassId) (md : Nat → Nat) (N : Nat → Nat → Int32) (co su : Int64) (v : Int32) : Met l yX7_isStar [.code yX7_isStar cX7_isStar 2 (some .boolean)] ({ frames := 1, cells := 0, slots := 0, locals := 22 } : Room) (PC D cy [.ref (md 0), .int v] (fun H => MW D cy md N co su H)) (RQi (bI (mIs v 0 (N 0 8 - 1)))) 0 0 (fun _ => False) := by
  refine k_body (by decide +kernel) (Nat.le_of_ble_eq_true rfl) ?_
  intro p e s m below meth c ls hx hb hml hown hr hlk hmn hl hG hI
  have hml9 : c.maxLocals = 2 := hml.trans hl.1
  have hl : lv_has ls 2 [(0, .ref (md 0)), (1, .int v)] := hl
  have hw := hI
  refine lv_iload_n hx hb dX7_isStar_0 rfl (lv_at hl 1 rfl) ?_
  refine lv_iconst (v := 0) hx hb dX7_isStar_1 (by decide) ?_
  refine lv_aload_n hx hb dX7_isStar_2 rfl (lv_at hl 0 rfl) ?_
  refine k_get (ci := 7) (C := RX7) (T := TX7) (N := 20) (v := .int ((N 0) 8)) hx hb hown hG rfl kin_X7 hw.o 8 (by decide) wF_X7_79 rfl dX7_isStar_3 ?_
  refine lv_iconst (v := 1) hx hb dX7_isStar_6 (by decide) ?_
  refine lv_isub hx hb dX7_isStar_7 ?_
  refine kc_i (kr_S (As := [.int v, .int 0, .int (((N 0) 8) - 1)]) (rest := []) hx hb hml hown hG (c_X7_is l D cy v 0 (((N 0) 8) - 1)) cf_X7_is wM_X7_86 trivial ⟨rfl, rfl, by decide, by decide⟩ rfl rfl (Nat.le_of_ble_eq_true rfl) ⟨Nat.le_of_ble_eq_true rfl, Nat.le_of_ble_eq_true rfl⟩ dX7_isStar_8) ?_
  exact ke_z hx hb hr hlk dX7_isStar_11 (by first | rfl | (try delta mO; simp only [bI_true, bI_false]))
set_option maxHeartbeats 4000000 in
set_option maxRecDepth 100000 in
theorem c_X7_isStation (l : Launch) (D : va_G) (cy : Nat → ClassId) (md : Nat → Nat) (N : Nat → Nat → Int32) (co su : Int64) (v : Int32) : Met l yX7_isStation [.code yX7_isStation cX7_isStation 2 (some .boolean)] ({ frames := 1, cells := 0, slots := 0, locals := 22 } : Room) (PC D cy [.ref (md 0), .int v] (fun H => MW D cy md N co su H)) (RQi (bI (mIs v 0 (N 0 9 - 1)))) 0 0 (fun _ => False) := by
  refine k_body (by decide +kernel) (Nat.le_of_ble_eq_true rfl) ?_
  intro p e s m below meth c ls hx hb hml hown hr hlk hmn hl hG hI
  have hml9 : c.maxLocals = 2 := hml.trans hl.1
  have hl : lv_has ls 2 [(0, .ref (md 0)), (1, .int v)] := hl
  have hw := hI
  refine lv_iload_n hx hb dX7_isStation_0 rfl (lv_at hl 1 rfl) ?_
  refine lv_iconst (v := 0) hx hb dX7_isStation_1 (by decide) ?_
  refine lv_aload_n hx hb dX7_isStation_2 rfl (lv_at hl 0 rfl) ?_
  refine k_get (ci := 7) (C := RX7) (T := TX7) (N := 20) (v := .int ((N 0) 9)) hx hb hown hG rfl kin_X7 hw.o 9 (by decide) wF_X7_89 rfl dX7_isStation_3 ?_
  refine lv_iconst (v := 1) hx hb dX7_isStation_6 (by decide) ?_
  refine lv_isub hx hb dX7_isStation_7 ?_
  refine kc_i (kr_S (As := [.int v, .int 0, .int (((N 0) 9) - 1)]) (rest := []) hx hb hml hown hG (c_X7_is l D cy v 0 (((N 0) 9) - 1)) cf_X7_is wM_X7_86 trivial ⟨rfl, rfl, by decide, by decide⟩ rfl rfl (Nat.le_of_ble_eq_true rfl) ⟨Nat.le_of_ble_eq_true rfl, Nat.le_of_ble_eq_true rfl⟩ dX7_isStation_8) ?_
  exact ke_z hx hb hr hlk dX7_isStation_11 (by first | rfl | (try delta mO; simp only [bI_true, bI_false]))
set_option maxHeartbeats 4000000 in
set_option maxRecDepth 100000 in
theorem c_X7_isReceiver (l : Launch) (D : va_G) (cy : Nat → ClassId) (md : Nat → Nat) (N : Nat → Nat → Int32) (co su : Int64) (v : Int32) : Met l yX7_isReceiver [.code yX7_isReceiver cX7_isReceiver 2 (some .boolean)] ({ frames := 1, cells := 0, slots := 0, locals := 22 } : Room) (PC D cy [.ref (md 0), .int v] (fun H => MW D cy md N co su H)) (RQi (bI (mIs v 0 (N 0 10 - 1)))) 0 0 (fun _ => False) := by
  refine k_body (by decide +kernel) (Nat.le_of_ble_eq_true rfl) ?_
  intro p e s m below meth c ls hx hb hml hown hr hlk hmn hl hG hI
  have hml9 : c.maxLocals = 2 := hml.trans hl.1
  have hl : lv_has ls 2 [(0, .ref (md 0)), (1, .int v)] := hl
  have hw := hI
  refine lv_iload_n hx hb dX7_isReceiver_0 rfl (lv_at hl 1 rfl) ?_
  refine lv_iconst (v := 0) hx hb dX7_isReceiver_1 (by decide) ?_
  refine lv_aload_n hx hb dX7_isReceiver_2 rfl (lv_at hl 0 rfl) ?_
  refine k_get (ci := 7) (C := RX7) (T := TX7) (N := 20) (v := .int ((N 0) 10)) hx hb hown hG rfl kin_X7 hw.o 10 (by decide) wF_X7_92 rfl dX7_isReceiver_3 ?_
  refine lv_iconst (v := 1) hx hb dX7_isReceiver_6 (by decide) ?_
  refine lv_isub hx hb dX7_isReceiver_7 ?_
  refine kc_i (kr_S (As := [.int v, .int 0, .int (((N 0) 10) - 1)]) (rest := []) hx hb hml hown hG (c_X7_is l D cy v 0 (((N 0) 10) - 1)) cf_X7_is wM_X7_86 trivial ⟨rfl, rfl, by decide, by decide⟩ rfl rfl (Nat.le_of_ble_eq_true rfl) ⟨Nat.le_of_ble_eq_true rfl, Nat.le_of_ble_eq_true rfl⟩ dX7_isReceiver_8) ?_
  exact ke_z hx hb hr hlk dX7_isReceiver_11 (by first | rfl | (try delta mO; simp only [bI_true, bI_false]))
set_option maxHeartbeats 4000000 in
set_option maxRecDepth 100000 in
theorem c_X7_isHeard (l : Launch) (D : va_G) (cy : Nat → ClassId) (md : Nat → Nat) (N : Nat → Nat → Int32) (co su : Int64) (i j : Nat) (hi : i < 8) (hj : j < 3) (k : Int32) : Met l yX7_isHeard [.code yX7_isHeard cX7_isHeard 5 (some .boolean)] ({ frames := 3, cells := 0, slots := 0, locals := 65 } : Room) (PC D cy [.ref (md 0), .int (nI i), .int (nI j), .int k] (fun H => MW D cy md N co su H)) (RQi (bI (mHear (N (10 + i)) (N (30 + j)) k))) 0 0 (fun _ => False) := by
  refine k_body (by decide +kernel) (Nat.le_of_ble_eq_true rfl) ?_
  intro p e s m below meth c ls hx hb hml hown hr hlk hmn hl hG hI
  have hml9 : c.maxLocals = 5 := hml.trans hl.1
  have hl : lv_has ls 5 [(0, .ref (md 0)), (1, .int (nI i)), (2, .int (nI j)), (3, .int k)] := hl
  have hw := hI
  refine lv_aload_n hx hb dX7_isHeard_0 rfl (lv_at hl 0 rfl) ?_
  refine lv_iload_n hx hb dX7_isHeard_1 rfl (lv_at hl 1 rfl) ?_
  refine lv_aload_n hx hb dX7_isHeard_2 rfl (lv_at hl 0 rfl) ?_
  refine lv_iload_n hx hb dX7_isHeard_3 rfl (lv_at hl 1 rfl) ?_
  refine lv_iload_n hx hb dX7_isHeard_4 rfl (lv_at hl 3 rfl) ?_
  refine kc_i (kr_V (As := [.int (nI i), .int k]) (rest := [.int (nI i), .ref (md 0)]) hx hb hml hown hG (c_X7_phaseIn l D cy md N co su i hi k) cf_X7_phaseIn wM_X7_70 hw.o rfl hw ⟨rfl, rfl, by decide, by decide⟩ rfl rfl (Nat.le_of_ble_eq_true rfl) ⟨Nat.le_of_ble_eq_true rfl, Nat.le_of_ble_eq_true rfl⟩ dX7_isHeard_5) ?_
  refine kc_i (kr_V (As := [.int (nI i), .int (mPh (N (10 + i)) k)]) (rest := []) hx hb hml hown hG (c_X7_yAt l D cy md N co su i hi (mPh (N (10 + i)) k)) cf_X7_yAt wM_X7_73 hw.o rfl hw ⟨rfl, rfl, by decide, by decide⟩ rfl rfl (Nat.le_of_ble_eq_true rfl) ⟨Nat.le_of_ble_eq_true rfl, Nat.le_of_ble_eq_true rfl⟩ dX7_isHeard_8) ?_
  refine lv_istore (lv' := [(4, .int (mY (N (10 + i)) (mPh (N (10 + i)) k))), (0, .ref (md 0)), (1, .int (nI i)), (2, .int (nI j)), (3, .int k)]) hx hb dX7_isHeard_11 hl (by decide) rfl (fun ls hl => ?_)
  have hml : c.maxLocals = ls.size := hml9.trans hl.1.symm
  refine lv_aload_n hx hb dX7_isHeard_13 rfl (lv_at hl 1 rfl) ?_
  refine k_get (ci := 7) (C := RX7) (T := TX7) (N := 20) (v := .ref (md 1)) hx hb hown hG rfl kin_X7 hw.o 3 (by decide) wF_X7_11 rfl dX7_isHeard_14 ?_
  refine lv_iload_n hx hb dX7_isHeard_17 rfl (lv_at hl 2 rfl) ?_
  refine k_ald2 (v := (md (10 + i))) hx hb hG 5 rfl hw.a1 (vp_in_nI (n := i) hi (by decide)) (mo_st hi) dX7_isHeard_18 ?_
  refine lv_iconst (v := 5) hx hb dX7_isHeard_19 (by decide) ?_
  refine k_iald (v := ((N (10 + i)) 5)) hx hb hG (hw.st hi) (show vp_in (nI 5) 6 from vp_in_nI (by decide) (by decide)) (congrArg (N (10 + i)) (clI 5 (by decide))) dX7_isHeard_20 ?_
  refine lv_iconst (v := 1) hx hb dX7_isHeard_21 (by decide) ?_
  refine lv_icmp_ne (tgt := 66) hx hb dX7_isHeard_22 (by decide) (fun c_22 => ?_) (fun c_22 => ?_)
  · refine lv_iconst (v := 0) hx hb dX7_isHeard_66 (by decide) ?_
    exact ke_z hx hb hr hlk dX7_isHeard_67 (by first | rfl | (try delta mHear; simp only [if_neg c_22, bI_true, bI_false]))
  · refine lv_iload hx hb dX7_isHeard_25 (lv_at hl 0 rfl) ?_
    refine lv_bipush (v := 10) hx hb dX7_isHeard_27 (by decide) ?_
    refine lv_icmp_lt (tgt := 66) hx hb dX7_isHeard_29 (by decide) (fun c_29 => ?_) (fun c_29 => ?_)
    · refine lv_iconst (v := 0) hx hb dX7_isHeard_66 (by decide) ?_
      exact ke_z hx hb hr hlk dX7_isHeard_67 (by first | rfl | (try delta mHear; simp only [if_pos c_22, if_pos c_29, bI_true, bI_false]))
    · refine lv_aload_n hx hb dX7_isHeard_32 rfl (lv_at hl 1 rfl) ?_
      refine lv_iload_n hx hb dX7_isHeard_33 rfl (lv_at hl 2 rfl) ?_
      refine lv_aload_n hx hb dX7_isHeard_34 rfl (lv_at hl 1 rfl) ?_
      refine lv_iload_n hx hb dX7_isHeard_35 rfl (lv_at hl 2 rfl) ?_
      refine lv_iload_n hx hb dX7_isHeard_36 rfl (lv_at hl 4 rfl) ?_
      refine kc_i (kr_V (As := [.int (nI i), .int k]) (rest := [.int (nI i), .ref (md 0)]) hx hb hml hown hG (c_X7_phaseIn l D cy md N co su i hi k) cf_X7_phaseIn wM_X7_70 hw.o rfl hw ⟨rfl, rfl, by decide, by decide⟩ rfl rfl (Nat.le_of_ble_eq_true rfl) ⟨Nat.le_of_ble_eq_true rfl, Nat.le_of_ble_eq_true rfl⟩ dX7_isHeard_37) ?_
      refine kc_i (kr_V (As := [.int (nI i), .int (mPh (N (10 + i)) k)]) (rest := []) hx hb hml hown hG (c_X7_xAt l D cy md N co su i hi (mPh (N (10 + i)) k)) cf_X7_xAt wM_X7_76 hw.o rfl hw ⟨rfl, rfl, by decide, by decide⟩ rfl rfl (Nat.le_of_ble_eq_true rfl) ⟨Nat.le_of_ble_eq_true rfl, Nat.le_of_ble_eq_true rfl⟩ dX7_isHeard_40) ?_
      refine lv_aload_n hx hb dX7_isHeard_43 rfl (lv_at hl 1 rfl) ?_
      refine k_get (ci := 7) (C := RX7) (T := TX7) (N := 20) (v := .ref (md 3)) hx hb hown hG rfl kin_X7 hw.o 5 (by decide) wF_X7_17 rfl dX7_isHeard_44 ?_
      refine lv_iload_n hx hb dX7_isHeard_47 rfl (lv_at hl 3 rfl) ?_
      refine k_ald2 (v := (md (30 + j))) hx hb hG 5 rfl hw.a3 (vp_in_nI (n := j) hj (by decide)) (mo_sn hj) dX7_isHeard_48 ?_
      refine lv_iconst (v := 0) hx hb dX7_isHeard_49 (by decide) ?_
      refine k_iald (v := ((N (30 + j)) 0)) hx hb hG (hw.sn hj) (show vp_in (nI 0) 2 from vp_in_nI (by decide) (by decide)) (congrArg (N (30 + j)) (clI 0 (by decide))) dX7_isHeard_50 ?_
      refine lv_isub hx hb dX7_isHeard_51 ?_
      refine k_mabs hx hb hml hown hG wM_X7_61 (Nat.le_of_ble_eq_true rfl) (Nat.le_of_ble_eq_true rfl) (Nat.le_of_ble_eq_true rfl) (Nat.le_of_ble_eq_true rfl) dX7_isHeard_52 ?_
      refine lv_iconst (v := 2) hx hb dX7_isHeard_55 (by decide) ?_
      refine lv_iload hx hb dX7_isHeard_56 (lv_at hl 0 rfl) ?_
      refine lv_imul hx hb dX7_isHeard_58 ?_
      refine lv_icmp_gt (tgt := 66) hx hb dX7_isHeard_59 (by decide) (fun c_59 => ?_) (fun c_59 => ?_)
      · refine lv_iconst (v := 0) hx hb dX7_isHeard_66 (by decide) ?_
        exact ke_z hx hb hr hlk dX7_isHeard_67 (by first | rfl | (try delta mHear; simp only [if_pos c_22, if_neg c_29, if_pos c_59, bI_true, bI_false]))
      · refine lv_iconst (v := 1) hx hb dX7_isHeard_62 (by decide) ?_
        refine lv_goto (tgt := 67) hx hb dX7_isHeard_63 (by decide) ?_
        exact ke_z hx hb hr hlk dX7_isHeard_67 (by first | rfl | (try delta mHear; simp only [if_pos c_22, if_neg c_29, if_neg c_59, bI_true, bI_false]))
set_option maxHeartbeats 4000000 in
set_option maxRecDepth 100000 in
theorem c_X7_sees (l : Launch) (D : va_G) (cy : Nat → ClassId) (md : Nat → Nat) (N : Nat → Nat → Int32) (co su : Int64) (i j : Nat) (hi : i < 3) (hj : j < 8) (k : Int32) : Met l yX7_sees [.code yX7_sees cX7_sees 7 (some .boolean)] ({ frames := 3, cells := 0, slots := 0, locals := 65 } : Room) (PC D cy [.ref (md 0), .int (nI i), .int (nI j), .int k] (fun H => MW D cy md N co su H)) (RQi (bI (mSees (N (40 + i)) (N (10 + j)) k))) 0 0 (fun _ => False) := by
  refine k_body (by decide +kernel) (Nat.le_of_ble_eq_true rfl) ?_
  intro p e s m below meth c ls hx hb hml hown hr hlk hmn hl hG hI
  have hml9 : c.maxLocals = 7 := hml.trans hl.1
  have hl : lv_has ls 7 [(0, .ref (md 0)), (1, .int (nI i)), (2, .int (nI j)), (3, .int k)] := hl
  have hw := hI
  refine lv_aload_n hx hb dX7_sees_0 rfl (lv_at hl 0 rfl) ?_
  refine k_get (ci := 7) (C := RX7) (T := TX7) (N := 20) (v := .ref (md 4)) hx hb hown hG rfl kin_X7 hw.o 6 (by decide) wF_X7_20 rfl dX7_sees_1 ?_
  refine lv_iload_n hx hb dX7_sees_4 rfl (lv_at hl 1 rfl) ?_
  refine k_ald2 (v := (md (40 + i))) hx hb hG 5 rfl hw.a4 (vp_in_nI (n := i) hi (by decide)) (mo_rc hi) dX7_sees_5 ?_
  refine lv_astore (lv' := [(4, .ref (md (40 + i))), (0, .ref (md 0)), (1, .int (nI i)), (2, .int (nI j)), (3, .int k)]) hx hb dX7_sees_6 hl (by decide) rfl (fun ls hl => ?_)
  have hml : c.maxLocals = ls.size := hml9.trans hl.1.symm
  refine lv_aload_n hx hb dX7_sees_8 rfl (lv_at hl 1 rfl) ?_
  refine lv_iload_n hx hb dX7_sees_9 rfl (lv_at hl 3 rfl) ?_
  refine lv_iload_n hx hb dX7_sees_10 rfl (lv_at hl 4 rfl) ?_
  refine kc_i (kr_V (As := [.int (nI j), .int k]) (rest := []) hx hb hml hown hG (c_X7_phaseIn l D cy md N co su j hj k) cf_X7_phaseIn wM_X7_70 hw.o rfl hw ⟨rfl, rfl, by decide, by decide⟩ rfl rfl (Nat.le_of_ble_eq_true rfl) ⟨Nat.le_of_ble_eq_true rfl, Nat.le_of_ble_eq_true rfl⟩ dX7_sees_11) ?_
  refine lv_istore (lv' := [(5, .int (mPh (N (10 + j)) k)), (4, .ref (md (40 + i))), (0, .ref (md 0)), (1, .int (nI i)), (2, .int (nI j)), (3, .int k)]) hx hb dX7_sees_14 hl (by decide) rfl (fun ls hl => ?_)
  have hml : c.maxLocals = ls.size := hml9.trans hl.1.symm
  refine lv_aload_n hx hb dX7_sees_16 rfl (lv_at hl 2 rfl) ?_
  refine lv_iload_n hx hb dX7_sees_17 rfl (lv_at hl 4 rfl) ?_
  refine lv_iload hx hb dX7_sees_18 (lv_at hl 0 rfl) ?_
  refine kc_i (kr_V (As := [.int (nI j), .int (mPh (N (10 + j)) k)]) (rest := []) hx hb hml hown hG (c_X7_xAt l D cy md N co su j hj (mPh (N (10 + j)) k)) cf_X7_xAt wM_X7_76 hw.o rfl hw ⟨rfl, rfl, by decide, by decide⟩ rfl rfl (Nat.le_of_ble_eq_true rfl) ⟨Nat.le_of_ble_eq_true rfl, Nat.le_of_ble_eq_true rfl⟩ dX7_sees_20) ?_
  refine lv_aload hx hb dX7_sees_23 (lv_at hl 1 rfl) ?_
  refine lv_iconst (v := 0) hx hb dX7_sees_25 (by decide) ?_
  refine k_iald (v := ((N (40 + i)) 0)) hx hb hG (hw.rc hi) (show vp_in (nI 0) 22 from vp_in_nI (by decide) (by decide)) (congrArg (N (40 + i)) (clI 0 (by decide))) dX7_sees_26 ?_
  refine lv_icmp_ge (tgt := 37) hx hb dX7_sees_27 (by decide) (fun c_27 => ?_) (fun c_27 => ?_)
  · refine lv_aload hx hb dX7_sees_37 (lv_at hl 1 rfl) ?_
    refine lv_iconst (v := 4) hx hb dX7_sees_39 (by decide) ?_
    refine k_iald (v := ((N (40 + i)) 4)) hx hb hG (hw.rc hi) (show vp_in (nI 4) 22 from vp_in_nI (by decide) (by decide)) (congrArg (N (40 + i)) (clI 4 (by decide))) dX7_sees_40 ?_
    refine lv_istore (lv' := [(6, .int ((N (40 + i)) 4)), (5, .int (mPh (N (10 + j)) k)), (4, .ref (md (40 + i))), (0, .ref (md 0)), (1, .int (nI i)), (2, .int (nI j)), (3, .int k)]) hx hb dX7_sees_41 hl (by decide) rfl (fun ls hl => ?_)
    have hml : c.maxLocals = ls.size := hml9.trans hl.1.symm
    refine lv_aload_n hx hb dX7_sees_43 rfl (lv_at hl 3 rfl) ?_
    refine k_get (ci := 7) (C := RX7) (T := TX7) (N := 20) (v := .ref (md 1)) hx hb hown hG rfl kin_X7 hw.o 3 (by decide) wF_X7_11 rfl dX7_sees_44 ?_
    refine lv_iload_n hx hb dX7_sees_47 rfl (lv_at hl 5 rfl) ?_
    refine k_ald2 (v := (md (10 + j))) hx hb hG 5 rfl hw.a1 (vp_in_nI (n := j) hj (by decide)) (mo_st hj) dX7_sees_48 ?_
    refine lv_iconst (v := 5) hx hb dX7_sees_49 (by decide) ?_
    refine k_iald (v := ((N (10 + j)) 5)) hx hb hG (hw.st hj) (show vp_in (nI 5) 6 from vp_in_nI (by decide) (by decide)) (congrArg (N (10 + j)) (clI 5 (by decide))) dX7_sees_50 ?_
    refine lv_iconst (v := 1) hx hb dX7_sees_51 (by decide) ?_
    refine lv_icmp_ne (tgt := 76) hx hb dX7_sees_52 (by decide) (fun c_52 => ?_) (fun c_52 => ?_)
    · refine lv_iconst (v := 0) hx hb dX7_sees_76 (by decide) ?_
      exact ke_z hx hb hr hlk dX7_sees_77 (by first | rfl | (try delta mSees; simp only [if_pos c_27, if_neg c_52, bI_true, bI_false]))
    · refine lv_aload_n hx hb dX7_sees_55 rfl (lv_at hl 3 rfl) ?_
      refine lv_iload_n hx hb dX7_sees_56 rfl (lv_at hl 5 rfl) ?_
      refine lv_iload hx hb dX7_sees_57 (lv_at hl 1 rfl) ?_
      refine kc_i (kr_V (As := [.int (nI j), .int (mPh (N (10 + j)) k)]) (rest := []) hx hb hml hown hG (c_X7_yAt l D cy md N co su j hj (mPh (N (10 + j)) k)) cf_X7_yAt wM_X7_73 hw.o rfl hw ⟨rfl, rfl, by decide, by decide⟩ rfl rfl (Nat.le_of_ble_eq_true rfl) ⟨Nat.le_of_ble_eq_true rfl, Nat.le_of_ble_eq_true rfl⟩ dX7_sees_59) ?_
      refine lv_aload hx hb dX7_sees_62 (lv_at hl 2 rfl) ?_
      refine lv_iconst (v := 1) hx hb dX7_sees_64 (by decide) ?_
      refine k_iald (v := ((N (40 + i)) 1)) hx hb hG (hw.rc hi) (show vp_in (nI 1) 22 from vp_in_nI (by decide) (by decide)) (congrArg (N (40 + i)) (clI 1 (by decide))) dX7_sees_65 ?_
      refine lv_isub hx hb dX7_sees_66 ?_
      refine lv_iload hx hb dX7_sees_67 (lv_at hl 0 rfl) ?_
      refine lv_icmp_lt (tgt := 76) hx hb dX7_sees_69 (by decide) (fun c_69 => ?_) (fun c_69 => ?_)
      · refine lv_iconst (v := 0) hx hb dX7_sees_76 (by decide) ?_
        exact ke_z hx hb hr hlk dX7_sees_77 (by first | rfl | (try delta mSees; simp only [if_pos c_27, if_pos c_52, if_pos c_69, bI_true, bI_false]))
      · refine lv_iconst (v := 1) hx hb dX7_sees_72 (by decide) ?_
        refine lv_goto (tgt := 77) hx hb dX7_sees_73 (by decide) ?_
        exact ke_z hx hb hr hlk dX7_sees_77 (by first | rfl | (try delta mSees; simp only [if_pos c_27, if_pos c_52, if_neg c_69, bI_true, bI_false]))
  · refine lv_aload hx hb dX7_sees_30 (lv_at hl 1 rfl) ?_
    refine lv_iconst (v := 3) hx hb dX7_sees_32 (by decide) ?_
    refine k_iald (v := ((N (40 + i)) 3)) hx hb hG (hw.rc hi) (show vp_in (nI 3) 22 from vp_in_nI (by decide) (by decide)) (congrArg (N (40 + i)) (clI 3 (by decide))) dX7_sees_33 ?_
    refine lv_goto (tgt := 41) hx hb dX7_sees_34 (by decide) ?_
    refine lv_istore (lv' := [(6, .int ((N (40 + i)) 3)), (5, .int (mPh (N (10 + j)) k)), (4, .ref (md (40 + i))), (0, .ref (md 0)), (1, .int (nI i)), (2, .int (nI j)), (3, .int k)]) hx hb dX7_sees_41 hl (by decide) rfl (fun ls hl => ?_)
    have hml : c.maxLocals = ls.size := hml9.trans hl.1.symm
    refine lv_aload_n hx hb dX7_sees_43 rfl (lv_at hl 3 rfl) ?_
    refine k_get (ci := 7) (C := RX7) (T := TX7) (N := 20) (v := .ref (md 1)) hx hb hown hG rfl kin_X7 hw.o 3 (by decide) wF_X7_11 rfl dX7_sees_44 ?_
    refine lv_iload_n hx hb dX7_sees_47 rfl (lv_at hl 5 rfl) ?_
    refine k_ald2 (v := (md (10 + j))) hx hb hG 5 rfl hw.a1 (vp_in_nI (n := j) hj (by decide)) (mo_st hj) dX7_sees_48 ?_
    refine lv_iconst (v := 5) hx hb dX7_sees_49 (by decide) ?_
    refine k_iald (v := ((N (10 + j)) 5)) hx hb hG (hw.st hj) (show vp_in (nI 5) 6 from vp_in_nI (by decide) (by decide)) (congrArg (N (10 + j)) (clI 5 (by decide))) dX7_sees_50 ?_
    refine lv_iconst (v := 1) hx hb dX7_sees_51 (by decide) ?_
    refine lv_icmp_ne (tgt := 76) hx hb dX7_sees_52 (by decide) (fun c_52 => ?_) (fun c_52 => ?_)
    · refine lv_iconst (v := 0) hx hb dX7_sees_76 (by decide) ?_
      exact ke_z hx hb hr hlk dX7_sees_77 (by first | rfl | (try delta mSees; simp only [if_neg c_27, if_neg c_52, bI_true, bI_false]))
    · refine lv_aload_n hx hb dX7_sees_55 rfl (lv_at hl 3 rfl) ?_
      refine lv_iload_n hx hb dX7_sees_56 rfl (lv_at hl 5 rfl) ?_
      refine lv_iload hx hb dX7_sees_57 (lv_at hl 1 rfl) ?_
      refine kc_i (kr_V (As := [.int (nI j), .int (mPh (N (10 + j)) k)]) (rest := []) hx hb hml hown hG (c_X7_yAt l D cy md N co su j hj (mPh (N (10 + j)) k)) cf_X7_yAt wM_X7_73 hw.o rfl hw ⟨rfl, rfl, by decide, by decide⟩ rfl rfl (Nat.le_of_ble_eq_true rfl) ⟨Nat.le_of_ble_eq_true rfl, Nat.le_of_ble_eq_true rfl⟩ dX7_sees_59) ?_
      refine lv_aload hx hb dX7_sees_62 (lv_at hl 2 rfl) ?_
      refine lv_iconst (v := 1) hx hb dX7_sees_64 (by decide) ?_
      refine k_iald (v := ((N (40 + i)) 1)) hx hb hG (hw.rc hi) (show vp_in (nI 1) 22 from vp_in_nI (by decide) (by decide)) (congrArg (N (40 + i)) (clI 1 (by decide))) dX7_sees_65 ?_
      refine lv_isub hx hb dX7_sees_66 ?_
      refine lv_iload hx hb dX7_sees_67 (lv_at hl 0 rfl) ?_
      refine lv_icmp_lt (tgt := 76) hx hb dX7_sees_69 (by decide) (fun c_69 => ?_) (fun c_69 => ?_)
      · refine lv_iconst (v := 0) hx hb dX7_sees_76 (by decide) ?_
        exact ke_z hx hb hr hlk dX7_sees_77 (by first | rfl | (try delta mSees; simp only [if_neg c_27, if_pos c_52, if_pos c_69, bI_true, bI_false]))
      · refine lv_iconst (v := 1) hx hb dX7_sees_72 (by decide) ?_
        refine lv_goto (tgt := 77) hx hb dX7_sees_73 (by decide) ?_
        exact ke_z hx hb hr hlk dX7_sees_77 (by first | rfl | (try delta mSees; simp only [if_neg c_27, if_pos c_52, if_neg c_69, bI_true, bI_false]))
