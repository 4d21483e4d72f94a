set_option maxHeartbeats 4000000 in
set_option maxRecDepth 100000 in
theorem c_J9_floorMod_7cf53 (l : Launch) (D : va_G) (cy : Nat → ClassId) (x y : Int32) (hy : ¬ y = 0) : Met l yJ9_floorMod_7cf53 [.code yJ9_floorMod_7cf53 cJ9_floorMod_7cf53 3 (some .int)] ({ frames := 0, cells := 0, slots := 0, locals := 0 } : Room) (PC D cy [.int x, .int y] (fun _ => True)) (RQi (pFMod x y)) 0 0 (fun _ => False) := by
  refine k_bodyF (by decide +kernel) (Nat.le_of_ble_eq_true rfl) ?_
  intro p e s m below meth c ls hx hb hml hown hr hlk hmn hl hG hI
  have hml9 : c.maxLocals = 3 := hml.trans hl.1
  have hl : lv_has ls 3 [(0, .int x), (1, .int y)] := hl
  refine lv_iload_n hx hb dJ9_floorMod_7cf53_0 rfl (lv_at hl 0 rfl) ?_
  refine lv_iload_n hx hb dJ9_floorMod_7cf53_1 rfl (lv_at hl 1 rfl) ?_
  refine lv_irem hx hb dJ9_floorMod_7cf53_2 hy ?_
  refine lv_istore_n (lv' := [(2, .int (x - x / y * y)), (0, .int x), (1, .int y)]) hx hb dJ9_floorMod_7cf53_3 rfl hl (by decide) rfl (fun ls hl => ?_)
  have hml : c.maxLocals = ls.size := hml9.trans hl.1.symm
  refine lv_iload_n hx hb dJ9_floorMod_7cf53_4 rfl (lv_at hl 1 rfl) ?_
  refine lv_iload_n hx hb dJ9_floorMod_7cf53_5 rfl (lv_at hl 2 rfl) ?_
  refine lv_ixor hx hb dJ9_floorMod_7cf53_6 ?_
  refine lv_if_ge (tgt := 18) hx hb dJ9_floorMod_7cf53_7 (by decide) (fun c_7 => ?_) (fun c_7 => ?_)
  · refine lv_iload_n hx hb dJ9_floorMod_7cf53_18 rfl (lv_at hl 0 rfl) ?_
    exact ke_i hx hb hr hlk dJ9_floorMod_7cf53_19 (by first | rfl | (try delta pFMod; try delta pRem; simp only [if_pos c_7, bI_true, bI_false]))
  · refine lv_iload_n hx hb dJ9_floorMod_7cf53_10 rfl (lv_at hl 0 rfl) ?_
    refine lv_if_eq (tgt := 18) hx hb dJ9_floorMod_7cf53_11 (by decide) (fun c_11 => ?_) (fun c_11 => ?_)
    · refine lv_iload_n hx hb dJ9_floorMod_7cf53_18 rfl (lv_at hl 0 rfl) ?_
      exact ke_i hx hb hr hlk dJ9_floorMod_7cf53_19 (by first | rfl | (try delta pFMod; try delta pRem; simp only [if_neg c_7, if_pos c_11, bI_true, bI_false]))
    · refine lv_iload_n hx hb dJ9_floorMod_7cf53_14 rfl (lv_at hl 0 rfl) ?_
      refine lv_iload_n hx hb dJ9_floorMod_7cf53_15 rfl (lv_at hl 2 rfl) ?_
      refine lv_iadd hx hb dJ9_floorMod_7cf53_16 ?_
      exact ke_i hx hb hr hlk dJ9_floorMod_7cf53_17 (by first | rfl | (try delta pFMod; try delta pRem; simp only [if_neg c_7, if_neg c_11, bI_true, bI_false]))
set_option maxHeartbeats 4000000 in
set_option maxRecDepth 100000 in
theorem c_J9_floorDiv_7cf53 (l : Launch) (D : va_G) (cy : Nat → ClassId) (x y : Int32) (hy : ¬ y = 0) : Met l yJ9_floorDiv_7cf53 [.code yJ9_floorDiv_7cf53 cJ9_floorDiv_7cf53 3 (some .int)] ({ frames := 0, cells := 0, slots := 0, locals := 0 } : Room) (PC D cy [.int x, .int y] (fun _ => True)) (RQi (pFDiv x y)) 0 0 (fun _ => False) := by
  refine k_bodyF (by decide +kernel) (Nat.le_of_ble_eq_true rfl) ?_
  intro p e s m below meth c ls hx hb hml hown hr hlk hmn hl hG hI
  have hml9 : c.maxLocals = 3 := hml.trans hl.1
  have hl : lv_has ls 3 [(0, .int x), (1, .int y)] := hl
  refine lv_iload_n hx hb dJ9_floorDiv_7cf53_0 rfl (lv_at hl 0 rfl) ?_
  refine lv_iload_n hx hb dJ9_floorDiv_7cf53_1 rfl (lv_at hl 1 rfl) ?_
  refine lv_idiv hx hb dJ9_floorDiv_7cf53_2 hy ?_
  refine lv_istore_n (lv' := [(2, .int (x / y)), (0, .int x), (1, .int y)]) hx hb dJ9_floorDiv_7cf53_3 rfl hl (by decide) rfl (fun ls hl => ?_)
  have hml : c.maxLocals = ls.size := hml9.trans hl.1.symm
  refine lv_iload_n hx hb dJ9_floorDiv_7cf53_4 rfl (lv_at hl 1 rfl) ?_
  refine lv_iload_n hx hb dJ9_floorDiv_7cf53_5 rfl (lv_at hl 2 rfl) ?_
  refine lv_ixor hx hb dJ9_floorDiv_7cf53_6 ?_
  refine lv_if_ge (tgt := 21) hx hb dJ9_floorDiv_7cf53_7 (by decide) (fun c_7 => ?_) (fun c_7 => ?_)
  · refine lv_iload_n hx hb dJ9_floorDiv_7cf53_21 rfl (lv_at hl 0 rfl) ?_
    exact ke_i hx hb hr hlk dJ9_floorDiv_7cf53_22 (by first | rfl | (try delta pFDiv; simp only [if_pos c_7, bI_true, bI_false]))
  · refine lv_iload_n hx hb dJ9_floorDiv_7cf53_10 rfl (lv_at hl 0 rfl) ?_
    refine lv_iload_n hx hb dJ9_floorDiv_7cf53_11 rfl (lv_at hl 2 rfl) ?_
    refine lv_imul hx hb dJ9_floorDiv_7cf53_12 ?_
    refine lv_iload_n hx hb dJ9_floorDiv_7cf53_13 rfl (lv_at hl 1 rfl) ?_
    refine lv_icmp_eq (tgt := 21) hx hb dJ9_floorDiv_7cf53_14 (by decide) (fun c_14 => ?_) (fun c_14 => ?_)
    · refine lv_iload_n hx hb dJ9_floorDiv_7cf53_21 rfl (lv_at hl 0 rfl) ?_
      exact ke_i hx hb hr hlk dJ9_floorDiv_7cf53_22 (by first | rfl | (try delta pFDiv; simp only [if_neg c_7, if_pos c_14, bI_true, bI_false]))
    · refine lv_iload_n hx hb dJ9_floorDiv_7cf53_17 rfl (lv_at hl 0 rfl) ?_
      refine lv_iconst (v := 1) hx hb dJ9_floorDiv_7cf53_18 (by decide) ?_
      refine lv_isub hx hb dJ9_floorDiv_7cf53_19 ?_
      exact ke_i hx hb hr hlk dJ9_floorDiv_7cf53_20 (by first | rfl | (try delta pFDiv; simp only [if_neg c_7, if_neg c_14, bI_true, bI_false]))
set_option maxHeartbeats 4000000 in
set_option maxRecDepth 100000 in
theorem c_J6_bitCount_0f7a4 (l : Launch) (D : va_G) (cy : Nat → ClassId) (x : Int32) : Met l yJ6_bitCount_0f7a4 [.code yJ6_bitCount_0f7a4 cJ6_bitCount_0f7a4 1 (some .int)] ({ frames := 0, cells := 0, slots := 0, locals := 0 } : Room) (PC D cy [.int x] (fun _ => True)) (RQi (pBits x)) 0 0 (fun _ => False) := by
  refine k_bodyF (by decide +kernel) (Nat.le_of_ble_eq_true rfl) ?_
  intro p e s m below meth c ls hx hb hml hown hr hlk hmn hl hG hI
  have hml9 : c.maxLocals = 1 := hml.trans hl.1
  have hl : lv_has ls 1 [(0, .int x)] := hl
  refine lv_iload_n hx hb dJ6_bitCount_0f7a4_0 rfl (lv_at hl 0 rfl) ?_
  refine lv_iload_n hx hb dJ6_bitCount_0f7a4_1 rfl (lv_at hl 0 rfl) ?_
  refine lv_iconst (v := 1) hx hb dJ6_bitCount_0f7a4_2 (by decide) ?_
  refine lv_iushr (v := (x.toUInt32 >>> ((1 : Int32).toUInt32 &&& Int32.toUInt32 31)).toInt32) hx hb dJ6_bitCount_0f7a4_3 rfl ?_
  refine lv_ldcw hx hb hown (hG.w wK_J6_265 rfl) dJ6_bitCount_0f7a4_4 ?_
  refine lv_iand hx hb dJ6_bitCount_0f7a4_7 ?_
  refine lv_isub hx hb dJ6_bitCount_0f7a4_8 ?_
  refine lv_topi (fun b1 e1 => ?_)
  refine lv_istore_n (lv' := [(0, .int b1)]) hx hb dJ6_bitCount_0f7a4_9 rfl hl (by decide) rfl (fun ls hl => ?_)
  have hml : c.maxLocals = ls.size := hml9.trans hl.1.symm
  refine lv_iload_n hx hb dJ6_bitCount_0f7a4_10 rfl (lv_at hl 0 rfl) ?_
  refine lv_ldcw hx hb hown (hG.w wK_J6_266 rfl) dJ6_bitCount_0f7a4_11 ?_
  refine lv_iand hx hb dJ6_bitCount_0f7a4_14 ?_
  refine lv_iload_n hx hb dJ6_bitCount_0f7a4_15 rfl (lv_at hl 0 rfl) ?_
  refine lv_iconst (v := 2) hx hb dJ6_bitCount_0f7a4_16 (by decide) ?_
  refine lv_iushr (v := (b1.toUInt32 >>> ((2 : Int32).toUInt32 &&& Int32.toUInt32 31)).toInt32) hx hb dJ6_bitCount_0f7a4_17 rfl ?_
  refine lv_ldcw hx hb hown (hG.w wK_J6_266 rfl) dJ6_bitCount_0f7a4_18 ?_
  refine lv_iand hx hb dJ6_bitCount_0f7a4_21 ?_
  refine lv_iadd hx hb dJ6_bitCount_0f7a4_22 ?_
  refine lv_topi (fun b2 e2 => ?_)
  refine lv_istore_n (lv' := [(0, .int b2)]) hx hb dJ6_bitCount_0f7a4_23 rfl hl (by decide) rfl (fun ls hl => ?_)
  have hml : c.maxLocals = ls.size := hml9.trans hl.1.symm
  refine lv_iload_n hx hb dJ6_bitCount_0f7a4_24 rfl (lv_at hl 0 rfl) ?_
  refine lv_iload_n hx hb dJ6_bitCount_0f7a4_25 rfl (lv_at hl 0 rfl) ?_
  refine lv_iconst (v := 4) hx hb dJ6_bitCount_0f7a4_26 (by decide) ?_
  refine lv_iushr (v := (b2.toUInt32 >>> ((4 : Int32).toUInt32 &&& Int32.toUInt32 31)).toInt32) hx hb dJ6_bitCount_0f7a4_27 rfl ?_
  refine lv_iadd hx hb dJ6_bitCount_0f7a4_28 ?_
  refine lv_ldcw hx hb hown (hG.w wK_J6_267 rfl) dJ6_bitCount_0f7a4_29 ?_
  refine lv_iand hx hb dJ6_bitCount_0f7a4_32 ?_
  refine lv_topi (fun b3 e3 => ?_)
  refine lv_istore_n (lv' := [(0, .int b3)]) hx hb dJ6_bitCount_0f7a4_33 rfl hl (by decide) rfl (fun ls hl => ?_)
  have hml : c.maxLocals = ls.size := hml9.trans hl.1.symm
  refine lv_iload_n hx hb dJ6_bitCount_0f7a4_34 rfl (lv_at hl 0 rfl) ?_
  refine lv_iload_n hx hb dJ6_bitCount_0f7a4_35 rfl (lv_at hl 0 rfl) ?_
  refine lv_bipush (v := 8) hx hb dJ6_bitCount_0f7a4_36 (by decide) ?_
  refine lv_iushr (v := (b3.toUInt32 >>> ((8 : Int32).toUInt32 &&& Int32.toUInt32 31)).toInt32) hx hb dJ6_bitCount_0f7a4_38 rfl ?_
  refine lv_iadd hx hb dJ6_bitCount_0f7a4_39 ?_
  refine lv_topi (fun b4 e4 => ?_)
  refine lv_istore_n (lv' := [(0, .int b4)]) hx hb dJ6_bitCount_0f7a4_40 rfl hl (by decide) rfl (fun ls hl => ?_)
  have hml : c.maxLocals = ls.size := hml9.trans hl.1.symm
  refine lv_iload_n hx hb dJ6_bitCount_0f7a4_41 rfl (lv_at hl 0 rfl) ?_
  refine lv_iload_n hx hb dJ6_bitCount_0f7a4_42 rfl (lv_at hl 0 rfl) ?_
  refine lv_bipush (v := 16) hx hb dJ6_bitCount_0f7a4_43 (by decide) ?_
  refine lv_iushr (v := (b4.toUInt32 >>> ((16 : Int32).toUInt32 &&& Int32.toUInt32 31)).toInt32) hx hb dJ6_bitCount_0f7a4_45 rfl ?_
  refine lv_iadd hx hb dJ6_bitCount_0f7a4_46 ?_
  refine lv_topi (fun b5 e5 => ?_)
  refine lv_istore_n (lv' := [(0, .int b5)]) hx hb dJ6_bitCount_0f7a4_47 rfl hl (by decide) rfl (fun ls hl => ?_)
  have hml : c.maxLocals = ls.size := hml9.trans hl.1.symm
  refine lv_iload_n hx hb dJ6_bitCount_0f7a4_48 rfl (lv_at hl 0 rfl) ?_
  refine lv_bipush (v := 63) hx hb dJ6_bitCount_0f7a4_49 (by decide) ?_
  refine lv_iand hx hb dJ6_bitCount_0f7a4_51 ?_
  exact ke_i hx hb hr hlk dJ6_bitCount_0f7a4_52 (by subst e1 e2 e3 e4 e5; rfl)
set_option maxHeartbeats 4000000 in
set_option maxRecDepth 100000 in
theorem c_X6_isOutside (l : Launch) (D : va_G) (cy : Nat → ClassId) (v lo hi : Int32) : Met l yX6_isOutside [.code yX6_isOutside cX6_isOutside 3 (some .boolean)] ({ frames := 0, cells := 0, slots := 0, locals := 0 } : Room) (PC D cy [.int v, .int lo, .int hi] (fun _ => True)) (RQi (bI (pOut v lo hi))) 0 0 (fun _ => False) := by
  refine k_body (by decide +kernel) (Nat.le_of_ble_eq_true rfl) ?_
  intro p e s m below meth c ls hx hb hml hown hr hlk hmn hl hG hI
  have hml9 : c.maxLocals = 3 := hml.trans hl.1
  have hl : lv_has ls 3 [(0, .int v), (1, .int lo), (2, .int hi)] := hl
  refine lv_iload_n hx hb dX6_isOutside_0 rfl (lv_at hl 0 rfl) ?_
  refine lv_iload_n hx hb dX6_isOutside_1 rfl (lv_at hl 1 rfl) ?_
  refine lv_icmp_lt (tgt := 10) hx hb dX6_isOutside_2 (by decide) (fun c_2 => ?_) (fun c_2 => ?_)
  · refine lv_iconst (v := 1) hx hb dX6_isOutside_10 (by decide) ?_
    refine lv_goto (tgt := 15) hx hb dX6_isOutside_11 (by decide) ?_
    exact ke_z hx hb hr hlk dX6_isOutside_15 (by first | rfl | (try delta pOut; simp only [if_pos c_2, bI_true, bI_false]))
  · refine lv_iload_n hx hb dX6_isOutside_5 rfl (lv_at hl 0 rfl) ?_
    refine lv_iload_n hx hb dX6_isOutside_6 rfl (lv_at hl 2 rfl) ?_
    refine lv_icmp_le (tgt := 14) hx hb dX6_isOutside_7 (by decide) (fun c_7 => ?_) (fun c_7 => ?_)
    · refine lv_iconst (v := 0) hx hb dX6_isOutside_14 (by decide) ?_
      exact ke_z hx hb hr hlk dX6_isOutside_15 (by first | rfl | (try delta pOut; simp only [if_neg c_2, if_pos c_7, bI_true, bI_false]))
    · refine lv_iconst (v := 1) hx hb dX6_isOutside_10 (by decide) ?_
      refine lv_goto (tgt := 15) hx hb dX6_isOutside_11 (by decide) ?_
      exact ke_z hx hb hr hlk dX6_isOutside_15 (by first | rfl | (try delta pOut; simp only [if_neg c_2, if_neg c_7, bI_true, bI_false]))
set_option maxHeartbeats 4000000 in
set_option maxRecDepth 100000 in
theorem c_X6_isNoPlace (l : Launch) (D : va_G) (cy : Nat → ClassId) (x y : Int32) : Met l yX6_isNoPlace [.code yX6_isNoPlace cX6_isNoPlace 2 (some .boolean)] ({ frames := 1, cells := 0, slots := 0, locals := 22 } : Room) (PC D cy [.int x, .int y] (fun _ => True)) (RQi (bI (pNoPlace x y))) 0 0 (fun _ => False) := by
  refine k_body (by decide +kernel) (Nat.le_of_ble_eq_true rfl) ?_
  intro p e s m below meth c ls hx hb hml hown hr hlk hmn hl hG hI
  have hml9 : c.maxLocals = 2 := hml.trans hl.1
  have hl : lv_has ls 2 [(0, .int x), (1, .int y)] := hl
  refine lv_iload_n hx hb dX6_isNoPlace_0 rfl (lv_at hl 0 rfl) ?_
  refine lv_bipush (v := (-12)) hx hb dX6_isNoPlace_1 (by decide) ?_
  refine lv_bipush (v := 12) hx hb dX6_isNoPlace_3 (by decide) ?_
  refine kc_i (kr_S (As := [.int x, .int (-12), .int 12]) (rest := []) hx hb hml hown hG (c_X6_isOutside l D cy x (-12) 12) cf_X6_isOutside wM_X6_34 trivial ⟨rfl, rfl, by decide, by decide⟩ rfl rfl (Nat.le_of_ble_eq_true rfl) ⟨Nat.le_of_ble_eq_true rfl, Nat.le_of_ble_eq_true rfl⟩ dX6_isNoPlace_5) ?_
  refine lv_if_ne (tgt := 21) hx hb dX6_isNoPlace_8 (by decide) (fun c_8 => ?_) (fun c_8 => ?_)
  · refine lv_iconst (v := 1) hx hb dX6_isNoPlace_21 (by decide) ?_
    refine lv_goto (tgt := 26) hx hb dX6_isNoPlace_22 (by decide) ?_
    exact ke_z hx hb hr hlk dX6_isNoPlace_26 (by first | rfl | (try delta pNoPlace; simp only [if_neg c_8, bI_true, bI_false]))
  · refine lv_iload_n hx hb dX6_isNoPlace_11 rfl (lv_at hl 1 rfl) ?_
    refine lv_iconst (v := 0) hx hb dX6_isNoPlace_12 (by decide) ?_
    refine lv_bipush (v := 12) hx hb dX6_isNoPlace_13 (by decide) ?_
    refine kc_i (kr_S (As := [.int y, .int 0, .int 12]) (rest := []) hx hb hml hown hG (c_X6_isOutside l D cy y 0 12) cf_X6_isOutside wM_X6_34 trivial ⟨rfl, rfl, by decide, by decide⟩ rfl rfl (Nat.le_of_ble_eq_true rfl) ⟨Nat.le_of_ble_eq_true rfl, Nat.le_of_ble_eq_true rfl⟩ dX6_isNoPlace_15) ?_
    refine lv_if_eq (tgt := 25) hx hb dX6_isNoPlace_18 (by decide) (fun c_18 => ?_) (fun c_18 => ?_)
    · refine lv_iconst (v := 0) hx hb dX6_isNoPlace_25 (by decide) ?_
      exact ke_z hx hb hr hlk dX6_isNoPlace_26 (by first | rfl | (try delta pNoPlace; simp only [if_pos c_8, if_pos c_18, bI_true, bI_false]))
    · refine lv_iconst (v := 1) hx hb dX6_isNoPlace_21 (by decide) ?_
      refine lv_goto (tgt := 26) hx hb dX6_isNoPlace_22 (by decide) ?_
      exact ke_z hx hb hr hlk dX6_isNoPlace_26 (by first | rfl | (try delta pNoPlace; simp only [if_pos c_8, if_neg c_18, bI_true, bI_false]))
set_option maxHeartbeats 4000000 in
set_option maxRecDepth 100000 in
theorem c_X6_held (l : Launch) (D : va_G) (cy : Nat → ClassId) (v lim : Int32) : Met l yX6_held [.code yX6_held cX6_held 2 (some .int)] ({ frames := 1, cells := 0, slots := 0, locals := 23 } : Room) (PC D cy [.int v, .int lim] (fun _ => True)) (RQi (pHeld v lim)) 0 0 (fun _ => False) := by
  refine k_body (by decide +kernel) (Nat.le_of_ble_eq_true rfl) ?_
  intro p e s m below meth c ls hx hb hml hown hr hlk hmn hl hG hI
  have hml9 : c.maxLocals = 2 := hml.trans hl.1
  have hl : lv_has ls 2 [(0, .int v), (1, .int lim)] := hl
  refine lv_iload_n hx hb dX6_held_0 rfl (lv_at hl 1 rfl) ?_
  refine lv_ineg hx hb dX6_held_1 ?_
  refine lv_iload_n hx hb dX6_held_2 rfl (lv_at hl 1 rfl) ?_
  refine lv_iload_n hx hb dX6_held_3 rfl (lv_at hl 0 rfl) ?_
  refine k_mmin hx hb hml hown hG wM_X6_296 (Nat.le_of_ble_eq_true rfl) (Nat.le_of_ble_eq_true rfl) (Nat.le_of_ble_eq_true rfl) (Nat.le_of_ble_eq_true rfl) dX6_held_4 ?_
  refine k_mmax hx hb hml hown hG wM_X6_299 (Nat.le_of_ble_eq_true rfl) (Nat.le_of_ble_eq_true rfl) (Nat.le_of_ble_eq_true rfl) (Nat.le_of_ble_eq_true rfl) dX6_held_7 ?_
  exact ke_i hx hb hr hlk dX6_held_10 (by first | rfl | (try delta pHeld; simp only [bI_true, bI_false]))
set_option maxHeartbeats 4000000 in
set_option maxRecDepth 100000 in
theorem c_X6_rangeOf (l : Launch) (D : va_G) (cy : Nat → ClassId) (x y u v : Int32) : Met l yX6_rangeOf [.code yX6_rangeOf cX6_rangeOf 4 (some .int)] ({ frames := 1, cells := 0, slots := 0, locals := 23 } : Room) (PC D cy [.int x, .int y, .int u, .int v] (fun _ => True)) (RQi (pRange x y u v)) 0 0 (fun _ => False) := by
  refine k_body (by decide +kernel) (Nat.le_of_ble_eq_true rfl) ?_
  intro p e s m below meth c ls hx hb hml hown hr hlk hmn hl hG hI
  have hml9 : c.maxLocals = 4 := hml.trans hl.1
  have hl : lv_has ls 4 [(0, .int x), (1, .int y), (2, .int u), (3, .int v)] := hl
  refine lv_iload_n hx hb dX6_rangeOf_0 rfl (lv_at hl 0 rfl) ?_
  refine lv_iload_n hx hb dX6_rangeOf_1 rfl (lv_at hl 2 rfl) ?_
  refine lv_isub hx hb dX6_rangeOf_2 ?_
  refine k_mabs hx hb hml hown hG wM_X6_302 (Nat.le_of_ble_eq_true rfl) (Nat.le_of_ble_eq_true rfl) (Nat.le_of_ble_eq_true rfl) (Nat.le_of_ble_eq_true rfl) dX6_rangeOf_3 ?_
  refine lv_iload_n hx hb dX6_rangeOf_6 rfl (lv_at hl 1 rfl) ?_
  refine lv_iload_n hx hb dX6_rangeOf_7 rfl (lv_at hl 3 rfl) ?_
  refine lv_isub hx hb dX6_rangeOf_8 ?_
  refine k_mabs hx hb hml hown hG wM_X6_302 (Nat.le_of_ble_eq_true rfl) (Nat.le_of_ble_eq_true rfl) (Nat.le_of_ble_eq_true rfl) (Nat.le_of_ble_eq_true rfl) dX6_rangeOf_9 ?_
  refine k_mmax hx hb hml hown hG wM_X6_299 (Nat.le_of_ble_eq_true rfl) (Nat.le_of_ble_eq_true rfl) (Nat.le_of_ble_eq_true rfl) (Nat.le_of_ble_eq_true rfl) dX6_rangeOf_12 ?_
  exact ke_i hx hb hr hlk dX6_rangeOf_15 (by first | rfl | (try delta pRange; simp only [bI_true, bI_false]))
set_option maxHeartbeats 4000000 in
set_option maxRecDepth 100000 in
theorem c_X6_swing (l : Launch) (D : va_G) (cy : Nat → ClassId) (ph : Int32) : Met l yX6_swing [.code yX6_swing cX6_swing 2 (some .int)] ({ frames := 0, cells := 0, slots := 0, locals := 0 } : Room) (PC D cy [.int ph] (fun _ => True)) (RQi (pSwing ph)) 0 0 (fun _ => False) := by
  refine k_body (by decide +kernel) (Nat.le_of_ble_eq_true rfl) ?_
  intro p e s m below meth c ls hx hb hml hown hr hlk hmn hl hG hI
  have hml9 : c.maxLocals = 2 := hml.trans hl.1
  have hl : lv_has ls 2 [(0, .int ph)] := hl
  refine lv_iload_n hx hb dX6_swing_0 rfl (lv_at hl 0 rfl) ?_
  refine lv_bipush (v := 48) hx hb dX6_swing_1 (by decide) ?_
  refine lv_irem hx hb dX6_swing_3 (by decide) ?_
  refine lv_istore_n (lv' := [(1, .int (ph - ph / 48 * 48)), (0, .int ph)]) hx hb dX6_swing_4 rfl hl (by decide) rfl (fun ls hl => ?_)
  have hml : c.maxLocals = ls.size := hml9.trans hl.1.symm
  refine lv_iload_n hx hb dX6_swing_5 rfl (lv_at hl 0 rfl) ?_
  refine lv_if_ge (tgt := 12) hx hb dX6_swing_6 (by decide) (fun c_6 => ?_) (fun c_6 => ?_)
  · refine lv_iload_n hx hb dX6_swing_12 rfl (lv_at hl 0 rfl) ?_
    refine lv_bipush (v := 12) hx hb dX6_swing_13 (by decide) ?_
    refine lv_icmp_gt (tgt := 20) hx hb dX6_swing_15 (by decide) (fun c_15 => ?_) (fun c_15 => ?_)
    · refine lv_iload_n hx hb dX6_swing_20 rfl (lv_at hl 0 rfl) ?_
      refine lv_bipush (v := 36) hx hb dX6_swing_21 (by decide) ?_
      refine lv_icmp_gt (tgt := 33) hx hb dX6_swing_23 (by decide) (fun c_23 => ?_) (fun c_23 => ?_)
      · refine lv_iload_n hx hb dX6_swing_33 rfl (lv_at hl 0 rfl) ?_
        refine lv_bipush (v := 48) hx hb dX6_swing_34 (by decide) ?_
        refine lv_isub hx hb dX6_swing_36 ?_
        exact ke_i hx hb hr hlk dX6_swing_37 (by first | rfl | (try delta pSwing; try delta pT; try delta pRem; simp only [if_pos c_6, if_pos c_15, if_pos c_23, bI_true, bI_false]))
      · refine lv_bipush (v := 24) hx hb dX6_swing_26 (by decide) ?_
        refine lv_iload_n hx hb dX6_swing_28 rfl (lv_at hl 0 rfl) ?_
        refine lv_isub hx hb dX6_swing_29 ?_
        refine lv_goto (tgt := 37) hx hb dX6_swing_30 (by decide) ?_
        exact ke_i hx hb hr hlk dX6_swing_37 (by first | rfl | (try delta pSwing; try delta pT; try delta pRem; simp only [if_pos c_6, if_pos c_15, if_neg c_23, bI_true, bI_false]))
    · refine lv_iload_n hx hb dX6_swing_18 rfl (lv_at hl 0 rfl) ?_
      exact ke_i hx hb hr hlk dX6_swing_19 (by first | rfl | (try delta pSwing; try delta pT; try delta pRem; simp only [if_pos c_6, if_neg c_15, bI_true, bI_false]))
  · refine lv_iinc (v := ((ph - ph / 48 * 48) + 48)) (lv' := [(1, .int ((ph - ph / 48 * 48) + 48)), (0, .int ph)]) hx hb dX6_swing_9 hl (k := 0) rfl (by first | rfl | exact (nI_succ _).symm) (by decide) rfl (fun ls hl => ?_)
    have hml : c.maxLocals = ls.size := hml9.trans hl.1.symm
    refine lv_iload_n hx hb dX6_swing_12 rfl (lv_at hl 0 rfl) ?_
    refine lv_bipush (v := 12) hx hb dX6_swing_13 (by decide) ?_
    refine lv_icmp_gt (tgt := 20) hx hb dX6_swing_15 (by decide) (fun c_15 => ?_) (fun c_15 => ?_)
    · refine lv_iload_n hx hb dX6_swing_20 rfl (lv_at hl 0 rfl) ?_
      refine lv_bipush (v := 36) hx hb dX6_swing_21 (by decide) ?_
      refine lv_icmp_gt (tgt := 33) hx hb dX6_swing_23 (by decide) (fun c_23 => ?_) (fun c_23 => ?_)
      · refine lv_iload_n hx hb dX6_swing_33 rfl (lv_at hl 0 rfl) ?_
        refine lv_bipush (v := 48) hx hb dX6_swing_34 (by decide) ?_
        refine lv_isub hx hb dX6_swing_36 ?_
        exact ke_i hx hb hr hlk dX6_swing_37 (by first | rfl | (try delta pSwing; try delta pT; try delta pRem; simp only [if_neg c_6, if_pos c_15, if_pos c_23, bI_true, bI_false]))
      · refine lv_bipush (v := 24) hx hb dX6_swing_26 (by decide) ?_
        refine lv_iload_n hx hb dX6_swing_28 rfl (lv_at hl 0 rfl) ?_
        refine lv_isub hx hb dX6_swing_29 ?_
        refine lv_goto (tgt := 37) hx hb dX6_swing_30 (by decide) ?_
        exact ke_i hx hb hr hlk dX6_swing_37 (by first | rfl | (try delta pSwing; try delta pT; try delta pRem; simp only [if_neg c_6, if_pos c_15, if_neg c_23, bI_true, bI_false]))
    · refine lv_iload_n hx hb dX6_swing_18 rfl (lv_at hl 0 rfl) ?_
      exact ke_i hx hb hr hlk dX6_swing_19 (by first | rfl | (try delta pSwing; try delta pT; try delta pRem; simp only [if_neg c_6, if_neg c_15, bI_true, bI_false]))
set_option maxHeartbeats 4000000 in
set_option maxRecDepth 100000 in
theorem c_X3_xIn (l : Launch) (D : va_G) (cy : Nat → ClassId) (a : Nat) (r : Nat → Int32) (k : Int32) : Met l yX3_xIn [.code yX3_xIn cX3_xIn 2 (some .int)] ({ frames := 1, cells := 0, slots := 0, locals := 21 } : Room) (PC D cy [.ref a, .int k] (fun H => va_P D vwCl [(a, .inr (3, stF r))] H)) (RQi (pX r k)) 0 0 (fun _ => False) := by
  refine k_body (by decide +kernel) (Nat.le_of_ble_eq_true rfl) ?_
  intro p e s m below meth c ls hx hb hml hown hr hlk hmn hl hG hI
  have hml9 : c.maxLocals = 2 := hml.trans hl.1
  have hl : lv_has ls 2 [(0, .ref a), (1, .int k)] := hl
  refine lv_aload_n hx hb dX3_xIn_0 rfl (lv_at hl 0 rfl) ?_
  refine k_get (ci := 3) (C := RX3) (T := TX3) (N := 11) hx hb hown hG rfl kin_X3 hI 0 (by decide) wF_X3_9 rfl dX3_xIn_1 ?_
  refine lv_aload_n hx hb dX3_xIn_4 rfl (lv_at hl 0 rfl) ?_
  refine k_get (ci := 3) (C := RX3) (T := TX3) (N := 11) hx hb hown hG rfl kin_X3 hI 2 (by decide) wF_X3_15 rfl dX3_xIn_5 ?_
  refine lv_iload_n hx hb dX3_xIn_8 rfl (lv_at hl 1 rfl) ?_
  refine lv_aload_n hx hb dX3_xIn_9 rfl (lv_at hl 0 rfl) ?_
  refine k_get (ci := 3) (C := RX3) (T := TX3) (N := 11) hx hb hown hG rfl kin_X3 hI 1 (by decide) wF_X3_18 rfl dX3_xIn_10 ?_
  refine lv_imul hx hb dX3_xIn_13 ?_
  refine lv_iadd hx hb dX3_xIn_14 ?_
  refine kc_i (kr_SN (As := [.int (r 2 + (k * r 1))]) (rest := [.int (r 0)]) hx hb hml hown hG (c_X6_swing l D cy (r 2 + (k * r 1))) cf_X6_swing wMN_X3_50 trivial ⟨rfl, rfl, by decide, by decide⟩ rfl rfl (Nat.le_of_ble_eq_true rfl) ⟨Nat.le_of_ble_eq_true rfl, Nat.le_of_ble_eq_true rfl⟩ dX3_xIn_15) ?_
  refine lv_imul hx hb dX3_xIn_18 ?_
  refine lv_bipush (v := 12) hx hb dX3_xIn_19 (by decide) ?_
  refine lv_idiv hx hb dX3_xIn_21 (by decide) ?_
  exact ke_i hx hb hr hlk dX3_xIn_22 (by first | rfl | (try delta pX; simp only [bI_true, bI_false]))
set_option maxHeartbeats 4000000 in
set_option maxRecDepth 100000 in
theorem c_X3_yIn (l : Launch) (D : va_G) (cy : Nat → ClassId) (a : Nat) (r : Nat → Int32) (k : Int32) : Met l yX3_yIn [.code yX3_yIn cX3_yIn 2 (some .int)] ({ frames := 1, cells := 0, slots := 0, locals := 21 } : Room) (PC D cy [.ref a, .int k] (fun H => va_P D vwCl [(a, .inr (3, stF r))] H)) (RQi (pY r k)) 0 0 (fun _ => False) := by
  refine k_body (by decide +kernel) (Nat.le_of_ble_eq_true rfl) ?_
  intro p e s m below meth c ls hx hb hml hown hr hlk hmn hl hG hI
  have hml9 : c.maxLocals = 2 := hml.trans hl.1
  have hl : lv_has ls 2 [(0, .ref a), (1, .int k)] := hl
  refine lv_aload_n hx hb dX3_yIn_0 rfl (lv_at hl 0 rfl) ?_
  refine k_get (ci := 3) (C := RX3) (T := TX3) (N := 11) hx hb hown hG rfl kin_X3 hI 0 (by decide) wF_X3_9 rfl dX3_yIn_1 ?_
  refine lv_aload_n hx hb dX3_yIn_4 rfl (lv_at hl 0 rfl) ?_
  refine k_get (ci := 3) (C := RX3) (T := TX3) (N := 11) hx hb hown hG rfl kin_X3 hI 2 (by decide) wF_X3_15 rfl dX3_yIn_5 ?_
  refine lv_iload_n hx hb dX3_yIn_8 rfl (lv_at hl 1 rfl) ?_
  refine lv_aload_n hx hb dX3_yIn_9 rfl (lv_at hl 0 rfl) ?_
  refine k_get (ci := 3) (C := RX3) (T := TX3) (N := 11) hx hb hown hG rfl kin_X3 hI 1 (by decide) wF_X3_18 rfl dX3_yIn_10 ?_
  refine lv_imul hx hb dX3_yIn_13 ?_
  refine lv_iadd hx hb dX3_yIn_14 ?_
  refine lv_bipush (v := 12) hx hb dX3_yIn_15 (by decide) ?_
  refine lv_iadd hx hb dX3_yIn_17 ?_
  refine kc_i (kr_SN (As := [.int ((r 2 + (k * r 1)) + 12)]) (rest := [.int (r 0)]) hx hb hml hown hG (c_X6_swing l D cy ((r 2 + (k * r 1)) + 12)) cf_X6_swing wMN_X3_50 trivial ⟨rfl, rfl, by decide, by decide⟩ rfl rfl (Nat.le_of_ble_eq_true rfl) ⟨Nat.le_of_ble_eq_true rfl, Nat.le_of_ble_eq_true rfl⟩ dX3_yIn_18) ?_
  refine lv_imul hx hb dX3_yIn_21 ?_
  refine lv_bipush (v := 12) hx hb dX3_yIn_22 (by decide) ?_
  refine lv_idiv hx hb dX3_yIn_24 (by decide) ?_
  exact ke_i hx hb hr hlk dX3_yIn_25 (by first | rfl | (try delta pY; simp only [bI_true, bI_false]))
set_option maxHeartbeats 4000000 in
set_option maxRecDepth 100000 in
theorem c_X3_toldX (l : Launch) (D : va_G) (cy : Nat → ClassId) (a : Nat) (r : Nat → Int32) (ep : Int32) : Met l yX3_toldX [.code yX3_toldX cX3_toldX 2 (some .int)] ({ frames := 1, cells := 0, slots := 0, locals := 21 } : Room) (PC D cy [.ref a, .int ep] (fun H => va_P D vwCl [(a, .inr (3, stF r))] H)) (RQi (pTX r ep)) 0 0 (fun _ => False) := by
  refine k_body (by decide +kernel) (Nat.le_of_ble_eq_true rfl) ?_
  intro p e s m below meth c ls hx hb hml hown hr hlk hmn hl hG hI
  have hml9 : c.maxLocals = 2 := hml.trans hl.1
  have hl : lv_has ls 2 [(0, .ref a), (1, .int ep)] := hl
  refine lv_aload_n hx hb dX3_toldX_0 rfl (lv_at hl 0 rfl) ?_
  refine k_get (ci := 3) (C := RX3) (T := TX3) (N := 11) hx hb hown hG rfl kin_X3 hI 0 (by decide) wF_X3_9 rfl dX3_toldX_1 ?_
  refine lv_aload_n hx hb dX3_toldX_4 rfl (lv_at hl 0 rfl) ?_
  refine k_get (ci := 3) (C := RX3) (T := TX3) (N := 11) hx hb hown hG rfl kin_X3 hI 8 (by decide) wF_X3_34 rfl dX3_toldX_5 ?_
  refine lv_iload_n hx hb dX3_toldX_8 rfl (lv_at hl 1 rfl) ?_
  refine lv_aload_n hx hb dX3_toldX_9 rfl (lv_at hl 0 rfl) ?_
  refine k_get (ci := 3) (C := RX3) (T := TX3) (N := 11) hx hb hown hG rfl kin_X3 hI 7 (by decide) wF_X3_31 rfl dX3_toldX_10 ?_
  refine lv_isub hx hb dX3_toldX_13 ?_
  refine lv_aload_n hx hb dX3_toldX_14 rfl (lv_at hl 0 rfl) ?_
  refine k_get (ci := 3) (C := RX3) (T := TX3) (N := 11) hx hb hown hG rfl kin_X3 hI 1 (by decide) wF_X3_18 rfl dX3_toldX_15 ?_
  refine lv_imul hx hb dX3_toldX_18 ?_
  refine lv_iadd hx hb dX3_toldX_19 ?_
  refine kc_i (kr_SN (As := [.int (r 8 + ((ep - r 7) * r 1))]) (rest := [.int (r 0)]) hx hb hml hown hG (c_X6_swing l D cy (r 8 + ((ep - r 7) * r 1))) cf_X6_swing wMN_X3_50 trivial ⟨rfl, rfl, by decide, by decide⟩ rfl rfl (Nat.le_of_ble_eq_true rfl) ⟨Nat.le_of_ble_eq_true rfl, Nat.le_of_ble_eq_true rfl⟩ dX3_toldX_20) ?_
  refine lv_imul hx hb dX3_toldX_23 ?_
  refine lv_bipush (v := 12) hx hb dX3_toldX_24 (by decide) ?_
  refine lv_idiv hx hb dX3_toldX_26 (by decide) ?_
  exact ke_i hx hb hr hlk dX3_toldX_27 (by first | rfl | (try delta pTX; simp only [bI_true, bI_false]))
set_option maxHeartbeats 4000000 in
set_option maxRecDepth 100000 in
theorem c_X3_toldY (l : Launch) (D : va_G) (cy : Nat → ClassId) (a : Nat) (r : Nat → Int32) (ep : Int32) : Met l yX3_toldY [.code yX3_toldY cX3_toldY 2 (some .int)] ({ frames := 1, cells := 0, slots := 0, locals := 21 } : Room) (PC D cy [.ref a, .int ep] (fun H => va_P D vwCl [(a, .inr (3, stF r))] H)) (RQi (pTY r ep)) 0 0 (fun _ => False) := by
  refine k_body (by decide +kernel) (Nat.le_of_ble_eq_true rfl) ?_
  intro p e s m below meth c ls hx hb hml hown hr hlk hmn hl hG hI
  have hml9 : c.maxLocals = 2 := hml.trans hl.1
  have hl : lv_has ls 2 [(0, .ref a), (1, .int ep)] := hl
  refine lv_aload_n hx hb dX3_toldY_0 rfl (lv_at hl 0 rfl) ?_
  refine k_get (ci := 3) (C := RX3) (T := TX3) (N := 11) hx hb hown hG rfl kin_X3 hI 0 (by decide) wF_X3_9 rfl dX3_toldY_1 ?_
  refine lv_aload_n hx hb dX3_toldY_4 rfl (lv_at hl 0 rfl) ?_
  refine k_get (ci := 3) (C := RX3) (T := TX3) (N := 11) hx hb hown hG rfl kin_X3 hI 8 (by decide) wF_X3_34 rfl dX3_toldY_5 ?_
  refine lv_iload_n hx hb dX3_toldY_8 rfl (lv_at hl 1 rfl) ?_
  refine lv_aload_n hx hb dX3_toldY_9 rfl (lv_at hl 0 rfl) ?_
  refine k_get (ci := 3) (C := RX3) (T := TX3) (N := 11) hx hb hown hG rfl kin_X3 hI 7 (by decide) wF_X3_31 rfl dX3_toldY_10 ?_
  refine lv_isub hx hb dX3_toldY_13 ?_
  refine lv_aload_n hx hb dX3_toldY_14 rfl (lv_at hl 0 rfl) ?_
  refine k_get (ci := 3) (C := RX3) (T := TX3) (N := 11) hx hb hown hG rfl kin_X3 hI 1 (by decide) wF_X3_18 rfl dX3_toldY_15 ?_
  refine lv_imul hx hb dX3_toldY_18 ?_
  refine lv_iadd hx hb dX3_toldY_19 ?_
  refine lv_bipush (v := 12) hx hb dX3_toldY_20 (by decide) ?_
  refine lv_iadd hx hb dX3_toldY_22 ?_
  refine kc_i (kr_SN (As := [.int ((r 8 + ((ep - r 7) * r 1)) + 12)]) (rest := [.int (r 0)]) hx hb hml hown hG (c_X6_swing l D cy ((r 8 + ((ep - r 7) * r 1)) + 12)) cf_X6_swing wMN_X3_50 trivial ⟨rfl, rfl, by decide, by decide⟩ rfl rfl (Nat.le_of_ble_eq_true rfl) ⟨Nat.le_of_ble_eq_true rfl, Nat.le_of_ble_eq_true rfl⟩ dX3_toldY_23) ?_
  refine lv_imul hx hb dX3_toldY_26 ?_
  refine lv_bipush (v := 12) hx hb dX3_toldY_27 (by decide) ?_
  refine lv_idiv hx hb dX3_toldY_29 (by decide) ?_
  exact ke_i hx hb hr hlk dX3_toldY_30 (by first | rfl | (try delta pTY; simp only [bI_true, bI_false]))
set_option maxHeartbeats 4000000 in
set_option maxRecDepth 100000 in
theorem c_X3_toldClock (l : Launch) (D : va_G) (cy : Nat → ClassId) (a : Nat) (r : Nat → Int32) (ep : Int32) : Met l yX3_toldClock [.code yX3_toldClock cX3_toldClock 2 (some .int)] ({ frames := 0, cells := 0, slots := 0, locals := 0 } : Room) (PC D cy [.ref a, .int ep] (fun H => va_P D vwCl [(a, .inr (3, stF r))] H)) (RQi (pTC r ep)) 0 0 (fun _ => False) := by
  refine k_body (by decide +kernel) (Nat.le_of_ble_eq_true rfl) ?_
  intro p e s m below meth c ls hx hb hml hown hr hlk hmn hl hG hI
  have hml9 : c.maxLocals = 2 := hml.trans hl.1
  have hl : lv_has ls 2 [(0, .ref a), (1, .int ep)] := hl
  refine lv_aload_n hx hb dX3_toldClock_0 rfl (lv_at hl 0 rfl) ?_
  refine k_get (ci := 3) (C := RX3) (T := TX3) (N := 11) hx hb hown hG rfl kin_X3 hI 9 (by decide) wF_X3_57 rfl dX3_toldClock_1 ?_
  refine lv_iload_n hx hb dX3_toldClock_4 rfl (lv_at hl 1 rfl) ?_
  refine lv_aload_n hx hb dX3_toldClock_5 rfl (lv_at hl 0 rfl) ?_
  refine k_get (ci := 3) (C := RX3) (T := TX3) (N := 11) hx hb hown hG rfl kin_X3 hI 7 (by decide) wF_X3_31 rfl dX3_toldClock_6 ?_
  refine lv_isub hx hb dX3_toldClock_9 ?_
  refine lv_aload_n hx hb dX3_toldClock_10 rfl (lv_at hl 0 rfl) ?_
  refine k_get (ci := 3) (C := RX3) (T := TX3) (N := 11) hx hb hown hG rfl kin_X3 hI 10 (by decide) wF_X3_60 rfl dX3_toldClock_11 ?_
  refine lv_imul hx hb dX3_toldClock_14 ?_
  refine lv_iadd hx hb dX3_toldClock_15 ?_
  exact ke_i hx hb hr hlk dX3_toldClock_16 (by first | rfl | (try delta pTC; simp only [bI_true, bI_false]))
set_option maxHeartbeats 4000000 in
set_option maxRecDepth 100000 in
theorem c_X3_messageHolds (l : Launch) (D : va_G) (cy : Nat → ClassId) (a : Nat) (r : Nat → Int32) (ep : Int32) : Met l yX3_messageHolds [.code yX3_messageHolds cX3_messageHolds 2 (some .boolean)] ({ frames := 1, cells := 0, slots := 0, locals := 22 } : Room) (PC D cy [.ref a, .int ep] (fun H => va_P D vwCl [(a, .inr (3, stF r))] H)) (RQi (bI (pHolds r ep))) 0 0 (fun _ => False) := by
  refine k_body (by decide +kernel) (Nat.le_of_ble_eq_true rfl) ?_
  intro p e s m below meth c ls hx hb hml hown hr hlk hmn hl hG hI
  have hml9 : c.maxLocals = 2 := hml.trans hl.1
  have hl : lv_has ls 2 [(0, .ref a), (1, .int ep)] := hl
  refine lv_aload_n hx hb dX3_messageHolds_0 rfl (lv_at hl 0 rfl) ?_
  refine k_get (ci := 3) (C := RX3) (T := TX3) (N := 11) hx hb hown hG rfl kin_X3 hI 6 (by decide) wF_X3_54 rfl dX3_messageHolds_1 ?_
  refine lv_if_le (tgt := 26) hx hb dX3_messageHolds_4 (by decide) (fun c_4 => ?_) (fun c_4 => ?_)
  · refine lv_iconst (v := 0) hx hb dX3_messageHolds_26 (by decide) ?_
    exact ke_z hx hb hr hlk dX3_messageHolds_27 (by first | rfl | (try delta pHolds; simp only [if_pos c_4, bI_true, bI_false]))
  · refine lv_iload_n hx hb dX3_messageHolds_7 rfl (lv_at hl 1 rfl) ?_
    refine lv_aload_n hx hb dX3_messageHolds_8 rfl (lv_at hl 0 rfl) ?_
    refine k_get (ci := 3) (C := RX3) (T := TX3) (N := 11) hx hb hown hG rfl kin_X3 hI 7 (by decide) wF_X3_31 rfl dX3_messageHolds_9 ?_
    refine lv_isub hx hb dX3_messageHolds_12 ?_
    refine lv_iconst (v := 0) hx hb dX3_messageHolds_13 (by decide) ?_
    refine lv_bipush (v := 12) hx hb dX3_messageHolds_14 (by decide) ?_
    refine kc_i (kr_SN (As := [.int (ep - r 7), .int 0, .int 12]) (rest := []) hx hb hml hown hG (c_X6_isOutside l D cy (ep - r 7) 0 12) cf_X6_isOutside wMN_X3_63 trivial ⟨rfl, rfl, by decide, by decide⟩ rfl rfl (Nat.le_of_ble_eq_true rfl) ⟨Nat.le_of_ble_eq_true rfl, Nat.le_of_ble_eq_true rfl⟩ dX3_messageHolds_16) ?_
    refine lv_if_ne (tgt := 26) hx hb dX3_messageHolds_19 (by decide) (fun c_19 => ?_) (fun c_19 => ?_)
    · refine lv_iconst (v := 0) hx hb dX3_messageHolds_26 (by decide) ?_
      exact ke_z hx hb hr hlk dX3_messageHolds_27 (by first | rfl | (try delta pHolds; simp only [if_neg c_4, if_neg c_19, bI_true, bI_false]))
    · refine lv_iconst (v := 1) hx hb dX3_messageHolds_22 (by decide) ?_
      refine lv_goto (tgt := 27) hx hb dX3_messageHolds_23 (by decide) ?_
      exact ke_z hx hb hr hlk dX3_messageHolds_27 (by first | rfl | (try delta pHolds; simp only [if_neg c_4, if_pos c_19, bI_true, bI_false]))
set_option maxHeartbeats 4000000 in
set_option maxRecDepth 100000 in
theorem c_X3_tell (l : Launch) (D : va_G) (cy : Nat → ClassId) (a : Nat) (r : Nat → Int32) (w : Int32) : Met l yX3_tell [.code yX3_tell cX3_tell 2 (some .int)] ({ frames := 2, cells := 0, slots := 0, locals := 42 } : Room) (PC D cy [.ref a, .int w] (fun H => va_P D vwCl [(a, .inr (3, stF r))] H)) (RQi (pTell r w)) 0 0 (fun _ => False) := by
  refine k_body (by decide +kernel) (Nat.le_of_ble_eq_true rfl) ?_
  intro p e s m below meth c ls hx hb hml hown hr hlk hmn hl hG hI
  have hml9 : c.maxLocals = 2 := hml.trans hl.1
  have hl : lv_has ls 2 [(0, .ref a), (1, .int w)] := hl
  refine lv_iload_n hx hb dX3_tell_0 rfl (lv_at hl 1 rfl) ?_
  by_cases w_0 : w = 0
  · refine lv_tableIn (off := 43) (tgt := 44) hx hb dX3_tell_1 (by rw [w_0]; decide) (by rw [w_0]; decide) (by rw [w_0]; rfl) (by decide) ?_
    refine lv_aload_n hx hb dX3_tell_44 rfl (lv_at hl 0 rfl) ?_
    refine k_get (ci := 3) (C := RX3) (T := TX3) (N := 11) hx hb hown hG rfl kin_X3 hI 0 (by decide) wF_X3_9 rfl dX3_tell_45 ?_
    exact ke_i hx hb hr hlk dX3_tell_48 (by first | rfl | (try delta pTell; simp only [if_pos w_0, bI_true, bI_false]))
  by_cases w_1 : w = 1
  · refine lv_tableIn (off := 48) (tgt := 49) hx hb dX3_tell_1 (by rw [w_1]; decide) (by rw [w_1]; decide) (by rw [w_1]; rfl) (by decide) ?_
    refine lv_aload_n hx hb dX3_tell_49 rfl (lv_at hl 0 rfl) ?_
    refine k_get (ci := 3) (C := RX3) (T := TX3) (N := 11) hx hb hown hG rfl kin_X3 hI 2 (by decide) wF_X3_15 rfl dX3_tell_50 ?_
    exact ke_i hx hb hr hlk dX3_tell_53 (by first | rfl | (try delta pTell; simp only [if_neg w_0, if_pos w_1, bI_true, bI_false]))
  by_cases w_2 : w = 2
  · refine lv_tableIn (off := 53) (tgt := 54) hx hb dX3_tell_1 (by rw [w_2]; decide) (by rw [w_2]; decide) (by rw [w_2]; rfl) (by decide) ?_
    refine lv_aload_n hx hb dX3_tell_54 rfl (lv_at hl 0 rfl) ?_
    refine k_get (ci := 3) (C := RX3) (T := TX3) (N := 11) hx hb hown hG rfl kin_X3 hI 1 (by decide) wF_X3_18 rfl dX3_tell_55 ?_
    exact ke_i hx hb hr hlk dX3_tell_58 (by first | rfl | (try delta pTell; simp only [if_neg w_0, if_neg w_1, if_pos w_2, bI_true, bI_false]))
  by_cases w_3 : w = 3
  · refine lv_tableIn (off := 58) (tgt := 59) hx hb dX3_tell_1 (by rw [w_3]; decide) (by rw [w_3]; decide) (by rw [w_3]; rfl) (by decide) ?_
    refine lv_aload_n hx hb dX3_tell_59 rfl (lv_at hl 0 rfl) ?_
    refine k_get (ci := 3) (C := RX3) (T := TX3) (N := 11) hx hb hown hG rfl kin_X3 hI 3 (by decide) wF_X3_21 rfl dX3_tell_60 ?_
    exact ke_i hx hb hr hlk dX3_tell_63 (by first | rfl | (try delta pTell; simp only [if_neg w_0, if_neg w_1, if_neg w_2, if_pos w_3, bI_true, bI_false]))
  by_cases w_4 : w = 4
  · refine lv_tableIn (off := 63) (tgt := 64) hx hb dX3_tell_1 (by rw [w_4]; decide) (by rw [w_4]; decide) (by rw [w_4]; rfl) (by decide) ?_
    refine lv_aload_n hx hb dX3_tell_64 rfl (lv_at hl 0 rfl) ?_
    refine k_get (ci := 3) (C := RX3) (T := TX3) (N := 11) hx hb hown hG rfl kin_X3 hI 4 (by decide) wF_X3_24 rfl dX3_tell_65 ?_
    exact ke_i hx hb hr hlk dX3_tell_68 (by first | rfl | (try delta pTell; simp only [if_neg w_0, if_neg w_1, if_neg w_2, if_neg w_3, if_pos w_4, bI_true, bI_false]))
  by_cases w_5 : w = 5
  · refine lv_tableIn (off := 68) (tgt := 69) hx hb dX3_tell_1 (by rw [w_5]; decide) (by rw [w_5]; decide) (by rw [w_5]; rfl) (by decide) ?_
    refine lv_aload_n hx hb dX3_tell_69 rfl (lv_at hl 0 rfl) ?_
    refine k_get (ci := 3) (C := RX3) (T := TX3) (N := 11) hx hb hown hG rfl kin_X3 hI 5 (by decide) wF_X3_27 rfl dX3_tell_70 ?_
    refine lv_if_eq (tgt := 80) hx hb dX3_tell_73 (by decide) (fun c_73 => ?_) (fun c_73 => ?_)
    · refine lv_iconst (v := 0) hx hb dX3_tell_80 (by decide) ?_
      exact ke_i hx hb hr hlk dX3_tell_81 (by first | rfl | (try delta pTell; simp only [if_neg w_0, if_neg w_1, if_neg w_2, if_neg w_3, if_neg w_4, if_pos w_5, if_pos c_73, bI_true, bI_false]))
    · refine lv_iconst (v := 1) hx hb dX3_tell_76 (by decide) ?_
      refine lv_goto (tgt := 81) hx hb dX3_tell_77 (by decide) ?_
      exact ke_i hx hb hr hlk dX3_tell_81 (by first | rfl | (try delta pTell; simp only [if_neg w_0, if_neg w_1, if_neg w_2, if_neg w_3, if_neg w_4, if_pos w_5, if_neg c_73, bI_true, bI_false]))
  by_cases w_6 : w = 6
  · refine lv_tableIn (off := 81) (tgt := 82) hx hb dX3_tell_1 (by rw [w_6]; decide) (by rw [w_6]; decide) (by rw [w_6]; rfl) (by decide) ?_
    refine lv_aload_n hx hb dX3_tell_82 rfl (lv_at hl 0 rfl) ?_
    refine lv_iconst (v := 0) hx hb dX3_tell_83 (by decide) ?_
    refine kc_i (kr_V (As := [.int 0]) (rest := []) hx hb hml hown hG (c_X3_xIn l D cy a r 0) cf_X3_xIn wM_X3_67 hI rfl hI ⟨rfl, rfl, by decide, by decide⟩ rfl rfl (Nat.le_of_ble_eq_true rfl) ⟨Nat.le_of_ble_eq_true rfl, Nat.le_of_ble_eq_true rfl⟩ dX3_tell_84) ?_
    exact ke_i hx hb hr hlk dX3_tell_87 (by first | rfl | (try delta pTell; simp only [if_neg w_0, if_neg w_1, if_neg w_2, if_neg w_3, if_neg w_4, if_neg w_5, if_pos w_6, bI_true, bI_false]))
  have t_0 : ¬ w.toInt = 0 := lv_neT w_0 (by decide)
  have t_1 : ¬ w.toInt = 1 := lv_neT w_1 (by decide)
  have t_2 : ¬ w.toInt = 2 := lv_neT w_2 (by decide)
  have t_3 : ¬ w.toInt = 3 := lv_neT w_3 (by decide)
  have t_4 : ¬ w.toInt = 4 := lv_neT w_4 (by decide)
  have t_5 : ¬ w.toInt = 5 := lv_neT w_5 (by decide)
  have t_6 : ¬ w.toInt = 6 := lv_neT w_6 (by decide)
  refine lv_tableOut (tgt := 88) hx hb dX3_tell_1 (by omega) (by decide) ?_
  refine lv_aload_n hx hb dX3_tell_88 rfl (lv_at hl 0 rfl) ?_
  refine lv_iconst (v := 0) hx hb dX3_tell_89 (by decide) ?_
  refine kc_i (kr_V (As := [.int 0]) (rest := []) hx hb hml hown hG (c_X3_yIn l D cy a r 0) cf_X3_yIn wM_X3_70 hI rfl hI ⟨rfl, rfl, by decide, by decide⟩ rfl rfl (Nat.le_of_ble_eq_true rfl) ⟨Nat.le_of_ble_eq_true rfl, Nat.le_of_ble_eq_true rfl⟩ dX3_tell_90) ?_
  exact ke_i hx hb hr hlk dX3_tell_93 (by first | rfl | (try delta pTell; simp only [if_neg w_0, if_neg w_1, if_neg w_2, if_neg w_3, if_neg w_4, if_neg w_5, if_neg w_6, bI_true, bI_false]))
set_option maxHeartbeats 4000000 in
set_option maxRecDepth 100000 in
theorem c_X3_tellMessage (l : Launch) (D : va_G) (cy : Nat → ClassId) (a : Nat) (r : Nat → Int32) (w ep : Int32) : Met l yX3_tellMessage [.code yX3_tellMessage cX3_tellMessage 3 (some .int)] ({ frames := 2, cells := 0, slots := 0, locals := 46 } : Room) (PC D cy [.ref a, .int w, .int ep] (fun H => va_P D vwCl [(a, .inr (3, stF r))] H)) (RQi (pTellM r w ep)) 0 0 (fun _ => False) := by
  refine k_body (by decide +kernel) (Nat.le_of_ble_eq_true rfl) ?_
  intro p e s m below meth c ls hx hb hml hown hr hlk hmn hl hG hI
  have hml9 : c.maxLocals = 3 := hml.trans hl.1
  have hl : lv_has ls 3 [(0, .ref a), (1, .int w), (2, .int ep)] := hl
  refine lv_iload_n hx hb dX3_tellMessage_0 rfl (lv_at hl 1 rfl) ?_
  by_cases w_0 : w = 0
  · refine lv_tableIn (off := 43) (tgt := 44) hx hb dX3_tellMessage_1 (by rw [w_0]; decide) (by rw [w_0]; decide) (by rw [w_0]; rfl) (by decide) ?_
    refine lv_aload_n hx hb dX3_tellMessage_44 rfl (lv_at hl 0 rfl) ?_
    refine k_get (ci := 3) (C := RX3) (T := TX3) (N := 11) hx hb hown hG rfl kin_X3 hI 6 (by decide) wF_X3_54 rfl dX3_tellMessage_45 ?_
    exact ke_i hx hb hr hlk dX3_tellMessage_48 (by first | rfl | (try delta pTellM; simp only [if_pos w_0, bI_true, bI_false]))
  by_cases w_1 : w = 1
  · refine lv_tableIn (off := 48) (tgt := 49) hx hb dX3_tellMessage_1 (by rw [w_1]; decide) (by rw [w_1]; decide) (by rw [w_1]; rfl) (by decide) ?_
    refine lv_aload_n hx hb dX3_tellMessage_49 rfl (lv_at hl 0 rfl) ?_
    refine k_get (ci := 3) (C := RX3) (T := TX3) (N := 11) hx hb hown hG rfl kin_X3 hI 7 (by decide) wF_X3_31 rfl dX3_tellMessage_50 ?_
    exact ke_i hx hb hr hlk dX3_tellMessage_53 (by first | rfl | (try delta pTellM; simp only [if_neg w_0, if_pos w_1, bI_true, bI_false]))
  by_cases w_2 : w = 2
  · refine lv_tableIn (off := 53) (tgt := 54) hx hb dX3_tellMessage_1 (by rw [w_2]; decide) (by rw [w_2]; decide) (by rw [w_2]; rfl) (by decide) ?_
    refine lv_aload_n hx hb dX3_tellMessage_54 rfl (lv_at hl 0 rfl) ?_
    refine k_get (ci := 3) (C := RX3) (T := TX3) (N := 11) hx hb hown hG rfl kin_X3 hI 8 (by decide) wF_X3_34 rfl dX3_tellMessage_55 ?_
    exact ke_i hx hb hr hlk dX3_tellMessage_58 (by first | rfl | (try delta pTellM; simp only [if_neg w_0, if_neg w_1, if_pos w_2, bI_true, bI_false]))
  by_cases w_3 : w = 3
  · refine lv_tableIn (off := 58) (tgt := 59) hx hb dX3_tellMessage_1 (by rw [w_3]; decide) (by rw [w_3]; decide) (by rw [w_3]; rfl) (by decide) ?_
    refine lv_aload_n hx hb dX3_tellMessage_59 rfl (lv_at hl 0 rfl) ?_
    refine k_get (ci := 3) (C := RX3) (T := TX3) (N := 11) hx hb hown hG rfl kin_X3 hI 9 (by decide) wF_X3_57 rfl dX3_tellMessage_60 ?_
    exact ke_i hx hb hr hlk dX3_tellMessage_63 (by first | rfl | (try delta pTellM; simp only [if_neg w_0, if_neg w_1, if_neg w_2, if_pos w_3, bI_true, bI_false]))
  by_cases w_4 : w = 4
  · refine lv_tableIn (off := 63) (tgt := 64) hx hb dX3_tellMessage_1 (by rw [w_4]; decide) (by rw [w_4]; decide) (by rw [w_4]; rfl) (by decide) ?_
    refine lv_aload_n hx hb dX3_tellMessage_64 rfl (lv_at hl 0 rfl) ?_
    refine k_get (ci := 3) (C := RX3) (T := TX3) (N := 11) hx hb hown hG rfl kin_X3 hI 10 (by decide) wF_X3_60 rfl dX3_tellMessage_65 ?_
    exact ke_i hx hb hr hlk dX3_tellMessage_68 (by first | rfl | (try delta pTellM; simp only [if_neg w_0, if_neg w_1, if_neg w_2, if_neg w_3, if_pos w_4, bI_true, bI_false]))
  by_cases w_5 : w = 5
  · refine lv_tableIn (off := 68) (tgt := 69) hx hb dX3_tellMessage_1 (by rw [w_5]; decide) (by rw [w_5]; decide) (by rw [w_5]; rfl) (by decide) ?_
    refine lv_aload_n hx hb dX3_tellMessage_69 rfl (lv_at hl 0 rfl) ?_
    refine lv_iload_n hx hb dX3_tellMessage_70 rfl (lv_at hl 2 rfl) ?_
    refine kc_i (kr_V (As := [.int ep]) (rest := []) hx hb hml hown hG (c_X3_messageHolds l D cy a r ep) cf_X3_messageHolds wM_X3_73 hI rfl hI ⟨rfl, rfl, by decide, by decide⟩ rfl rfl (Nat.le_of_ble_eq_true rfl) ⟨Nat.le_of_ble_eq_true rfl, Nat.le_of_ble_eq_true rfl⟩ dX3_tellMessage_71) ?_
    refine lv_if_eq (tgt := 81) hx hb dX3_tellMessage_74 (by decide) (fun c_74 => ?_) (fun c_74 => ?_)
    · refine lv_iconst (v := 0) hx hb dX3_tellMessage_81 (by decide) ?_
      exact ke_i hx hb hr hlk dX3_tellMessage_82 (by first | rfl | (try delta pTellM; simp only [if_neg w_0, if_neg w_1, if_neg w_2, if_neg w_3, if_neg w_4, if_pos w_5, if_pos c_74, bI_true, bI_false]))
    · refine lv_iconst (v := 1) hx hb dX3_tellMessage_77 (by decide) ?_
      refine lv_goto (tgt := 82) hx hb dX3_tellMessage_78 (by decide) ?_
      exact ke_i hx hb hr hlk dX3_tellMessage_82 (by first | rfl | (try delta pTellM; simp only [if_neg w_0, if_neg w_1, if_neg w_2, if_neg w_3, if_neg w_4, if_pos w_5, if_neg c_74, bI_true, bI_false]))
  by_cases w_6 : w = 6
  · refine lv_tableIn (off := 82) (tgt := 83) hx hb dX3_tellMessage_1 (by rw [w_6]; decide) (by rw [w_6]; decide) (by rw [w_6]; rfl) (by decide) ?_
    refine lv_aload_n hx hb dX3_tellMessage_83 rfl (lv_at hl 0 rfl) ?_
    refine k_get (ci := 3) (C := RX3) (T := TX3) (N := 11) hx hb hown hG rfl kin_X3 hI 6 (by decide) wF_X3_54 rfl dX3_tellMessage_84 ?_
    refine lv_if_ne (tgt := 94) hx hb dX3_tellMessage_87 (by decide) (fun c_87 => ?_) (fun c_87 => ?_)
    · refine lv_aload_n hx hb dX3_tellMessage_94 rfl (lv_at hl 0 rfl) ?_
      refine lv_iload_n hx hb dX3_tellMessage_95 rfl (lv_at hl 2 rfl) ?_
      refine kc_i (kr_V (As := [.int ep]) (rest := []) hx hb hml hown hG (c_X3_toldClock l D cy a r ep) cf_X3_toldClock wM_X3_77 hI rfl hI ⟨rfl, rfl, by decide, by decide⟩ rfl rfl (Nat.le_of_ble_eq_true rfl) ⟨Nat.le_of_ble_eq_true rfl, Nat.le_of_ble_eq_true rfl⟩ dX3_tellMessage_96) ?_
      refine lv_aload_n hx hb dX3_tellMessage_99 rfl (lv_at hl 0 rfl) ?_
      refine k_get (ci := 3) (C := RX3) (T := TX3) (N := 11) hx hb hown hG rfl kin_X3 hI 3 (by decide) wF_X3_21 rfl dX3_tellMessage_100 ?_
      refine lv_isub hx hb dX3_tellMessage_103 ?_
      refine k_mabs hx hb hml hown hG wM_X3_80 (Nat.le_of_ble_eq_true rfl) (Nat.le_of_ble_eq_true rfl) (Nat.le_of_ble_eq_true rfl) (Nat.le_of_ble_eq_true rfl) dX3_tellMessage_104 ?_
      exact ke_i hx hb hr hlk dX3_tellMessage_107 (by first | rfl | (try delta pTellM; simp only [if_neg w_0, if_neg w_1, if_neg w_2, if_neg w_3, if_neg w_4, if_neg w_5, if_pos w_6, if_neg c_87, bI_true, bI_false]))
    · refine lv_iconst (v := 0) hx hb dX3_tellMessage_90 (by decide) ?_
      refine lv_goto (tgt := 107) hx hb dX3_tellMessage_91 (by decide) ?_
      exact ke_i hx hb hr hlk dX3_tellMessage_107 (by first | rfl | (try delta pTellM; simp only [if_neg w_0, if_neg w_1, if_neg w_2, if_neg w_3, if_neg w_4, if_neg w_5, if_pos w_6, if_pos c_87, bI_true, bI_false]))
  have t_0 : ¬ w.toInt = 0 := lv_neT w_0 (by decide)
  have t_1 : ¬ w.toInt = 1 := lv_neT w_1 (by decide)
  have t_2 : ¬ w.toInt = 2 := lv_neT w_2 (by decide)
  have t_3 : ¬ w.toInt = 3 := lv_neT w_3 (by decide)
  have t_4 : ¬ w.toInt = 4 := lv_neT w_4 (by decide)
  have t_5 : ¬ w.toInt = 5 := lv_neT w_5 (by decide)
  have t_6 : ¬ w.toInt = 6 := lv_neT w_6 (by decide)
  refine lv_tableOut (tgt := 108) hx hb dX3_tellMessage_1 (by omega) (by decide) ?_
  refine lv_aload_n hx hb dX3_tellMessage_108 rfl (lv_at hl 0 rfl) ?_
  refine k_get (ci := 3) (C := RX3) (T := TX3) (N := 11) hx hb hown hG rfl kin_X3 hI 6 (by decide) wF_X3_54 rfl dX3_tellMessage_109 ?_
  refine lv_if_ne (tgt := 119) hx hb dX3_tellMessage_112 (by decide) (fun c_112 => ?_) (fun c_112 => ?_)
  · refine lv_aload_n hx hb dX3_tellMessage_119 rfl (lv_at hl 0 rfl) ?_
    refine lv_iload_n hx hb dX3_tellMessage_120 rfl (lv_at hl 2 rfl) ?_
    refine kc_i (kr_V (As := [.int ep]) (rest := []) hx hb hml hown hG (c_X3_toldX l D cy a r ep) cf_X3_toldX wM_X3_83 hI rfl hI ⟨rfl, rfl, by decide, by decide⟩ rfl rfl (Nat.le_of_ble_eq_true rfl) ⟨Nat.le_of_ble_eq_true rfl, Nat.le_of_ble_eq_true rfl⟩ dX3_tellMessage_121) ?_
    refine lv_aload_n hx hb dX3_tellMessage_124 rfl (lv_at hl 0 rfl) ?_
    refine lv_iload_n hx hb dX3_tellMessage_125 rfl (lv_at hl 2 rfl) ?_
    refine kc_i (kr_V (As := [.int ep]) (rest := [.int (pTX r ep)]) hx hb hml hown hG (c_X3_toldY l D cy a r ep) cf_X3_toldY wM_X3_86 hI rfl hI ⟨rfl, rfl, by decide, by decide⟩ rfl rfl (Nat.le_of_ble_eq_true rfl) ⟨Nat.le_of_ble_eq_true rfl, Nat.le_of_ble_eq_true rfl⟩ dX3_tellMessage_126) ?_
    refine lv_aload_n hx hb dX3_tellMessage_129 rfl (lv_at hl 0 rfl) ?_
    refine lv_iconst (v := 0) hx hb dX3_tellMessage_130 (by decide) ?_
    refine kc_i (kr_V (As := [.int 0]) (rest := [.int (pTY r ep), .int (pTX r ep)]) hx hb hml hown hG (c_X3_xIn l D cy a r 0) cf_X3_xIn wM_X3_67 hI rfl hI ⟨rfl, rfl, by decide, by decide⟩ rfl rfl (Nat.le_of_ble_eq_true rfl) ⟨Nat.le_of_ble_eq_true rfl, Nat.le_of_ble_eq_true rfl⟩ dX3_tellMessage_131) ?_
    refine lv_aload_n hx hb dX3_tellMessage_134 rfl (lv_at hl 0 rfl) ?_
    refine lv_iconst (v := 0) hx hb dX3_tellMessage_135 (by decide) ?_
    refine kc_i (kr_V (As := [.int 0]) (rest := [.int (pX r 0), .int (pTY r ep), .int (pTX r ep)]) hx hb hml hown hG (c_X3_yIn l D cy a r 0) cf_X3_yIn wM_X3_70 hI rfl hI ⟨rfl, rfl, by decide, by decide⟩ rfl rfl (Nat.le_of_ble_eq_true rfl) ⟨Nat.le_of_ble_eq_true rfl, Nat.le_of_ble_eq_true rfl⟩ dX3_tellMessage_136) ?_
    refine kc_i (kr_SN (As := [.int (pTX r ep), .int (pTY r ep), .int (pX r 0), .int (pY r 0)]) (rest := []) hx hb hml hown hG (c_X6_rangeOf l D cy (pTX r ep) (pTY r ep) (pX r 0) (pY r 0)) cf_X6_rangeOf wMN_X3_89 trivial ⟨rfl, rfl, by decide, by decide⟩ rfl rfl (Nat.le_of_ble_eq_true rfl) ⟨Nat.le_of_ble_eq_true rfl, Nat.le_of_ble_eq_true rfl⟩ dX3_tellMessage_139) ?_
    exact ke_i hx hb hr hlk dX3_tellMessage_142 (by first | rfl | (try delta pTellM; simp only [if_neg w_0, if_neg w_1, if_neg w_2, if_neg w_3, if_neg w_4, if_neg w_5, if_neg w_6, if_neg c_112, bI_true, bI_false]))
  · refine lv_iconst (v := 0) hx hb dX3_tellMessage_115 (by decide) ?_
    refine lv_goto (tgt := 142) hx hb dX3_tellMessage_116 (by decide) ?_
    exact ke_i hx hb hr hlk dX3_tellMessage_142 (by first | rfl | (try delta pTellM; simp only [if_neg w_0, if_neg w_1, if_neg w_2, if_neg w_3, if_neg w_4, if_neg w_5, if_neg w_6, if_pos c_112, bI_true, bI_false]))
set_option maxHeartbeats 4000000 in
set_option maxRecDepth 100000 in
theorem c_X4_canHear (l : Launch) (D : va_G) (cy : Nat → ClassId) (a b : Nat) (t r : Nat → Int32) (k : Int32) : Met l yX4_canHear [.code yX4_canHear cX4_canHear 4 (some .boolean)] ({ frames := 2, cells := 0, slots := 0, locals := 42 } : Room) (PC D cy [.ref a, .ref b, .int k] (fun H => va_P D vwCl [(a, .inr (4, snF t))] H ∧ va_P D vwCl [(b, .inr (3, stF r))] H)) (RQi (bI (pHear t r k))) 0 0 (fun _ => False) := by
  refine k_body (by decide +kernel) (Nat.le_of_ble_eq_true rfl) ?_
  intro p e s m below meth c ls hx hb hml hown hr hlk hmn hl hG hI
  have hml9 : c.maxLocals = 4 := hml.trans hl.1
  have hl : lv_has ls 4 [(0, .ref a), (1, .ref b), (2, .int k)] := hl
  refine lv_aload_n hx hb dX4_canHear_0 rfl (lv_at hl 1 rfl) ?_
  refine lv_iload_n hx hb dX4_canHear_1 rfl (lv_at hl 2 rfl) ?_
  refine kc_i (kr_VN (As := [.int k]) (rest := []) hx hb hml hown hG (c_X3_yIn l D cy b r k) cf_X3_yIn wMN_X4_16 hI.2 rfl hI.2 ⟨rfl, rfl, by decide, by decide⟩ rfl rfl (Nat.le_of_ble_eq_true rfl) ⟨Nat.le_of_ble_eq_true rfl, Nat.le_of_ble_eq_true rfl⟩ dX4_canHear_2) ?_
  refine lv_istore_n (lv' := [(3, .int (pY r k)), (0, .ref a), (1, .ref b), (2, .int k)]) hx hb dX4_canHear_5 rfl hl (by decide) rfl (fun ls hl => ?_)
  have hml : c.maxLocals = ls.size := hml9.trans hl.1.symm
  refine lv_aload_n hx hb dX4_canHear_6 rfl (lv_at hl 2 rfl) ?_
  refine k_getN (ci := 3) (C := RX3) (T := TX3) (N := 11) hx hb hown hG rfl kin_X3 hI.2 5 (by decide) wFN_X4_22 rfl dX4_canHear_7 ?_
  refine lv_if_eq (tgt := 42) hx hb dX4_canHear_10 (by decide) (fun c_10 => ?_) (fun c_10 => ?_)
  · refine lv_iconst (v := 0) hx hb dX4_canHear_42 (by decide) ?_
    exact ke_z hx hb hr hlk dX4_canHear_43 (by first | rfl | (try delta pHear; simp only [if_pos c_10, bI_true, bI_false]))
  · refine lv_iload_n hx hb dX4_canHear_13 rfl (lv_at hl 0 rfl) ?_
    refine lv_bipush (v := 10) hx hb dX4_canHear_14 (by decide) ?_
    refine lv_icmp_lt (tgt := 42) hx hb dX4_canHear_16 (by decide) (fun c_16 => ?_) (fun c_16 => ?_)
    · refine lv_iconst (v := 0) hx hb dX4_canHear_42 (by decide) ?_
      exact ke_z hx hb hr hlk dX4_canHear_43 (by first | rfl | (try delta pHear; simp only [if_neg c_10, if_pos c_16, bI_true, bI_false]))
    · refine lv_aload_n hx hb dX4_canHear_19 rfl (lv_at hl 2 rfl) ?_
      refine lv_iload_n hx hb dX4_canHear_20 rfl (lv_at hl 3 rfl) ?_
      refine kc_i (kr_VN (As := [.int k]) (rest := []) hx hb hml hown hG (c_X3_xIn l D cy b r k) cf_X3_xIn wMN_X4_26 hI.2 rfl hI.2 ⟨rfl, rfl, by decide, by decide⟩ rfl rfl (Nat.le_of_ble_eq_true rfl) ⟨Nat.le_of_ble_eq_true rfl, Nat.le_of_ble_eq_true rfl⟩ dX4_canHear_21) ?_
      refine lv_aload_n hx hb dX4_canHear_24 rfl (lv_at hl 1 rfl) ?_
      refine k_get (ci := 4) (C := RX4) (T := TX4) (N := 2) hx hb hown hG rfl kin_X4 hI.1 0 (by decide) wF_X4_7 rfl dX4_canHear_25 ?_
      refine lv_isub hx hb dX4_canHear_28 ?_
      refine k_mabs hx hb hml hown hG wM_X4_29 (Nat.le_of_ble_eq_true rfl) (Nat.le_of_ble_eq_true rfl) (Nat.le_of_ble_eq_true rfl) (Nat.le_of_ble_eq_true rfl) dX4_canHear_29 ?_
      refine lv_iconst (v := 2) hx hb dX4_canHear_32 (by decide) ?_
      refine lv_iload_n hx hb dX4_canHear_33 rfl (lv_at hl 0 rfl) ?_
      refine lv_imul hx hb dX4_canHear_34 ?_
      refine lv_icmp_gt (tgt := 42) hx hb dX4_canHear_35 (by decide) (fun c_35 => ?_) (fun c_35 => ?_)
      · refine lv_iconst (v := 0) hx hb dX4_canHear_42 (by decide) ?_
        exact ke_z hx hb hr hlk dX4_canHear_43 (by first | rfl | (try delta pHear; simp only [if_neg c_10, if_neg c_16, if_pos c_35, bI_true, bI_false]))
      · refine lv_iconst (v := 1) hx hb dX4_canHear_38 (by decide) ?_
        refine lv_goto (tgt := 43) hx hb dX4_canHear_39 (by decide) ?_
        exact ke_z hx hb hr hlk dX4_canHear_43 (by first | rfl | (try delta pHear; simp only [if_neg c_10, if_neg c_16, if_neg c_35, bI_true, bI_false]))
set_option maxHeartbeats 4000000 in
set_option maxRecDepth 100000 in
theorem c_X0_canSee (l : Launch) (D : va_G) (cy : Nat → ClassId) (a b q2 q3 : Nat) (v r : Nat → Int32) (k : Int32) : Met l yX0_canSee [.code yX0_canSee cX0_canSee 4 (some .boolean)] ({ frames := 2, cells := 0, slots := 0, locals := 42 } : Room) (PC D cy [.ref a, .ref b, .int k] (fun H => va_P D vwCl [(a, .inr (0, rcF v q2 q3))] H ∧ va_P D vwCl [(b, .inr (3, stF r))] H)) (RQi (bI (pSee v r k))) 0 0 (fun _ => False) := by
  refine k_body (by decide +kernel) (Nat.le_of_ble_eq_true rfl) ?_
  intro p e s m below meth c ls hx hb hml hown hr hlk hmn hl hG hI
  have hml9 : c.maxLocals = 4 := hml.trans hl.1
  have hl : lv_has ls 4 [(0, .ref a), (1, .ref b), (2, .int k)] := hl
  refine lv_aload_n hx hb dX0_canSee_0 rfl (lv_at hl 1 rfl) ?_
  refine lv_iload_n hx hb dX0_canSee_1 rfl (lv_at hl 2 rfl) ?_
  refine kc_i (kr_VN (As := [.int k]) (rest := []) hx hb hml hown hG (c_X3_xIn l D cy b r k) cf_X3_xIn wMN_X0_54 hI.2 rfl hI.2 ⟨rfl, rfl, by decide, by decide⟩ rfl rfl (Nat.le_of_ble_eq_true rfl) ⟨Nat.le_of_ble_eq_true rfl, Nat.le_of_ble_eq_true rfl⟩ dX0_canSee_2) ?_
  refine lv_aload_n hx hb dX0_canSee_5 rfl (lv_at hl 0 rfl) ?_
  refine k_get (ci := 0) (C := RX0) (T := TX0) (N := 13) hx hb hown hG rfl kin_X0 hI.1 4 (by decide) wF_X0_15 rfl dX0_canSee_6 ?_
  refine lv_icmp_ge (tgt := 19) hx hb dX0_canSee_9 (by decide) (fun c_9 => ?_) (fun c_9 => ?_)
  · refine lv_aload_n hx hb dX0_canSee_19 rfl (lv_at hl 0 rfl) ?_
    refine k_get (ci := 0) (C := RX0) (T := TX0) (N := 13) hx hb hown hG rfl kin_X0 hI.1 7 (by decide) wF_X0_27 rfl dX0_canSee_20 ?_
    refine lv_istore_n (lv' := [(3, .int (v 7)), (0, .ref a), (1, .ref b), (2, .int k)]) hx hb dX0_canSee_23 rfl hl (by decide) rfl (fun ls hl => ?_)
    have hml : c.maxLocals = ls.size := hml9.trans hl.1.symm
    refine lv_aload_n hx hb dX0_canSee_24 rfl (lv_at hl 2 rfl) ?_
    refine k_getN (ci := 3) (C := RX3) (T := TX3) (N := 11) hx hb hown hG rfl kin_X3 hI.2 5 (by decide) wFN_X0_60 rfl dX0_canSee_25 ?_
    refine lv_if_eq (tgt := 49) hx hb dX0_canSee_28 (by decide) (fun c_28 => ?_) (fun c_28 => ?_)
    · refine lv_iconst (v := 0) hx hb dX0_canSee_49 (by decide) ?_
      exact ke_z hx hb hr hlk dX0_canSee_50 (by first | rfl | (try delta pSee; simp only [if_pos c_9, if_pos c_28, bI_true, bI_false]))
    · refine lv_aload_n hx hb dX0_canSee_31 rfl (lv_at hl 2 rfl) ?_
      refine lv_iload_n hx hb dX0_canSee_32 rfl (lv_at hl 3 rfl) ?_
      refine kc_i (kr_VN (As := [.int k]) (rest := []) hx hb hml hown hG (c_X3_yIn l D cy b r k) cf_X3_yIn wMN_X0_63 hI.2 rfl hI.2 ⟨rfl, rfl, by decide, by decide⟩ rfl rfl (Nat.le_of_ble_eq_true rfl) ⟨Nat.le_of_ble_eq_true rfl, Nat.le_of_ble_eq_true rfl⟩ dX0_canSee_33) ?_
      refine lv_aload_n hx hb dX0_canSee_36 rfl (lv_at hl 1 rfl) ?_
      refine k_get (ci := 0) (C := RX0) (T := TX0) (N := 13) hx hb hown hG rfl kin_X0 hI.1 5 (by decide) wF_X0_18 rfl dX0_canSee_37 ?_
      refine lv_isub hx hb dX0_canSee_40 ?_
      refine lv_iload_n hx hb dX0_canSee_41 rfl (lv_at hl 0 rfl) ?_
      refine lv_icmp_lt (tgt := 49) hx hb dX0_canSee_42 (by decide) (fun c_42 => ?_) (fun c_42 => ?_)
      · refine lv_iconst (v := 0) hx hb dX0_canSee_49 (by decide) ?_
        exact ke_z hx hb hr hlk dX0_canSee_50 (by first | rfl | (try delta pSee; simp only [if_pos c_9, if_neg c_28, if_pos c_42, bI_true, bI_false]))
      · refine lv_iconst (v := 1) hx hb dX0_canSee_45 (by decide) ?_
        refine lv_goto (tgt := 50) hx hb dX0_canSee_46 (by decide) ?_
        exact ke_z hx hb hr hlk dX0_canSee_50 (by first | rfl | (try delta pSee; simp only [if_pos c_9, if_neg c_28, if_neg c_42, bI_true, bI_false]))
  · refine lv_aload_n hx hb dX0_canSee_12 rfl (lv_at hl 0 rfl) ?_
    refine k_get (ci := 0) (C := RX0) (T := TX0) (N := 13) hx hb hown hG rfl kin_X0 hI.1 6 (by decide) wF_X0_24 rfl dX0_canSee_13 ?_
    refine lv_goto (tgt := 23) hx hb dX0_canSee_16 (by decide) ?_
    refine lv_istore_n (lv' := [(3, .int (v 6)), (0, .ref a), (1, .ref b), (2, .int k)]) hx hb dX0_canSee_23 rfl hl (by decide) rfl (fun ls hl => ?_)
    have hml : c.maxLocals = ls.size := hml9.trans hl.1.symm
    refine lv_aload_n hx hb dX0_canSee_24 rfl (lv_at hl 2 rfl) ?_
    refine k_getN (ci := 3) (C := RX3) (T := TX3) (N := 11) hx hb hown hG rfl kin_X3 hI.2 5 (by decide) wFN_X0_60 rfl dX0_canSee_25 ?_
    refine lv_if_eq (tgt := 49) hx hb dX0_canSee_28 (by decide) (fun c_28 => ?_) (fun c_28 => ?_)
    · refine lv_iconst (v := 0) hx hb dX0_canSee_49 (by decide) ?_
      exact ke_z hx hb hr hlk dX0_canSee_50 (by first | rfl | (try delta pSee; simp only [if_neg c_9, if_pos c_28, bI_true, bI_false]))
    · refine lv_aload_n hx hb dX0_canSee_31 rfl (lv_at hl 2 rfl) ?_
      refine lv_iload_n hx hb dX0_canSee_32 rfl (lv_at hl 3 rfl) ?_
      refine kc_i (kr_VN (As := [.int k]) (rest := []) hx hb hml hown hG (c_X3_yIn l D cy b r k) cf_X3_yIn wMN_X0_63 hI.2 rfl hI.2 ⟨rfl, rfl, by decide, by decide⟩ rfl rfl (Nat.le_of_ble_eq_true rfl) ⟨Nat.le_of_ble_eq_true rfl, Nat.le_of_ble_eq_true rfl⟩ dX0_canSee_33) ?_
      refine lv_aload_n hx hb dX0_canSee_36 rfl (lv_at hl 1 rfl) ?_
      refine k_get (ci := 0) (C := RX0) (T := TX0) (N := 13) hx hb hown hG rfl kin_X0 hI.1 5 (by decide) wF_X0_18 rfl dX0_canSee_37 ?_
      refine lv_isub hx hb dX0_canSee_40 ?_
      refine lv_iload_n hx hb dX0_canSee_41 rfl (lv_at hl 0 rfl) ?_
      refine lv_icmp_lt (tgt := 49) hx hb dX0_canSee_42 (by decide) (fun c_42 => ?_) (fun c_42 => ?_)
      · refine lv_iconst (v := 0) hx hb dX0_canSee_49 (by decide) ?_
        exact ke_z hx hb hr hlk dX0_canSee_50 (by first | rfl | (try delta pSee; simp only [if_neg c_9, if_neg c_28, if_pos c_42, bI_true, bI_false]))
      · refine lv_iconst (v := 1) hx hb dX0_canSee_45 (by decide) ?_
        refine lv_goto (tgt := 50) hx hb dX0_canSee_46 (by decide) ?_
        exact ke_z hx hb hr hlk dX0_canSee_50 (by first | rfl | (try delta pSee; simp only [if_neg c_9, if_neg c_28, if_neg c_42, bI_true, bI_false]))
set_option maxHeartbeats 4000000 in
set_option maxRecDepth 100000 in
theorem c_X0_trueCount (l : Launch) (D : va_G) (cy : Nat → ClassId) (a b q2 q3 : Nat) (v r : Nat → Int32) : Met l yX0_trueCount [.code yX0_trueCount cX0_trueCount 4 (some .int)] ({ frames := 2, cells := 0, slots := 0, locals := 46 } : Room) (PC D cy [.ref a, .ref b] (fun H => va_P D vwCl [(a, .inr (0, rcF v q2 q3))] H ∧ va_P D vwCl [(b, .inr (3, stF r))] H)) (RQi (pTrue v r)) 0 0 (fun _ => False) := by
  refine k_body (by decide +kernel) (Nat.le_of_ble_eq_true rfl) ?_
  intro p e s m below meth c ls hx hb hml hown hr hlk hmn hl hG hI
  have hml9 : c.maxLocals = 4 := hml.trans hl.1
  have hl : lv_has ls 4 [(0, .ref a), (1, .ref b)] := hl
  refine lv_aload_n hx hb dX0_trueCount_0 rfl (lv_at hl 1 rfl) ?_
  refine lv_iconst (v := 0) hx hb dX0_trueCount_1 (by decide) ?_
  refine kc_i (kr_VN (As := [.int 0]) (rest := []) hx hb hml hown hG (c_X3_xIn l D cy b r 0) cf_X3_xIn wMN_X0_54 hI.2 rfl hI.2 ⟨rfl, rfl, by decide, by decide⟩ rfl rfl (Nat.le_of_ble_eq_true rfl) ⟨Nat.le_of_ble_eq_true rfl, Nat.le_of_ble_eq_true rfl⟩ dX0_trueCount_2) ?_
  refine lv_istore_n (lv' := [(2, .int (pX r 0)), (0, .ref a), (1, .ref b)]) hx hb dX0_trueCount_5 rfl hl (by decide) rfl (fun ls hl => ?_)
  have hml : c.maxLocals = ls.size := hml9.trans hl.1.symm
  refine lv_aload_n hx hb dX0_trueCount_6 rfl (lv_at hl 1 rfl) ?_
  refine k_get (ci := 0) (C := RX0) (T := TX0) (N := 13) hx hb hown hG rfl kin_X0 hI.1 4 (by decide) wF_X0_15 rfl dX0_trueCount_7 ?_
  refine lv_aload_n hx hb dX0_trueCount_10 rfl (lv_at hl 1 rfl) ?_
  refine k_get (ci := 0) (C := RX0) (T := TX0) (N := 13) hx hb hown hG rfl kin_X0 hI.1 5 (by decide) wF_X0_18 rfl dX0_trueCount_11 ?_
  refine lv_iload_n hx hb dX0_trueCount_14 rfl (lv_at hl 0 rfl) ?_
  refine lv_aload_n hx hb dX0_trueCount_15 rfl (lv_at hl 2 rfl) ?_
  refine lv_iconst (v := 0) hx hb dX0_trueCount_16 (by decide) ?_
  refine kc_i (kr_VN (As := [.int 0]) (rest := [.int (pX r 0), .int (v 5), .int (v 4)]) hx hb hml hown hG (c_X3_yIn l D cy b r 0) cf_X3_yIn wMN_X0_63 hI.2 rfl hI.2 ⟨rfl, rfl, by decide, by decide⟩ rfl rfl (Nat.le_of_ble_eq_true rfl) ⟨Nat.le_of_ble_eq_true rfl, Nat.le_of_ble_eq_true rfl⟩ dX0_trueCount_17) ?_
  refine kc_i (kr_SN (As := [.int (v 4), .int (v 5), .int (pX r 0), .int (pY r 0)]) (rest := []) hx hb hml hown hG (c_X6_rangeOf l D cy (v 4) (v 5) (pX r 0) (pY r 0)) cf_X6_rangeOf wMN_X0_66 trivial ⟨rfl, rfl, by decide, by decide⟩ rfl rfl (Nat.le_of_ble_eq_true rfl) ⟨Nat.le_of_ble_eq_true rfl, Nat.le_of_ble_eq_true rfl⟩ dX0_trueCount_20) ?_
  refine lv_istore_n (lv' := [(3, .int (pRange (v 4) (v 5) (pX r 0) (pY r 0))), (2, .int (pX r 0)), (0, .ref a), (1, .ref b)]) hx hb dX0_trueCount_23 rfl hl (by decide) rfl (fun ls hl => ?_)
  have hml : c.maxLocals = ls.size := hml9.trans hl.1.symm
  refine lv_iload_n hx hb dX0_trueCount_24 rfl (lv_at hl 0 rfl) ?_
  refine lv_aload_n hx hb dX0_trueCount_25 rfl (lv_at hl 3 rfl) ?_
  refine k_getN (ci := 3) (C := RX3) (T := TX3) (N := 11) hx hb hown hG rfl kin_X3 hI.2 3 (by decide) wFN_X0_70 rfl dX0_trueCount_26 ?_
  refine lv_iadd hx hb dX0_trueCount_29 ?_
  refine lv_aload_n hx hb dX0_trueCount_30 rfl (lv_at hl 2 rfl) ?_
  refine k_get (ci := 0) (C := RX0) (T := TX0) (N := 13) hx hb hown hG rfl kin_X0 hI.1 1 (by decide) wF_X0_21 rfl dX0_trueCount_31 ?_
  refine lv_iadd hx hb dX0_trueCount_34 ?_
  refine lv_iload_n hx hb dX0_trueCount_35 rfl (lv_at hl 1 rfl) ?_
  refine lv_aload_n hx hb dX0_trueCount_36 rfl (lv_at hl 2 rfl) ?_
  refine k_get (ci := 0) (C := RX0) (T := TX0) (N := 13) hx hb hown hG rfl kin_X0 hI.1 4 (by decide) wF_X0_15 rfl dX0_trueCount_37 ?_
  refine lv_icmp_ge (tgt := 50) hx hb dX0_trueCount_40 (by decide) (fun c_40 => ?_) (fun c_40 => ?_)
  · refine lv_aload_n hx hb dX0_trueCount_50 rfl (lv_at hl 2 rfl) ?_
    refine k_get (ci := 0) (C := RX0) (T := TX0) (N := 13) hx hb hown hG rfl kin_X0 hI.1 11 (by decide) wF_X0_73 rfl dX0_trueCount_51 ?_
    refine lv_ineg hx hb dX0_trueCount_54 ?_
    refine lv_iadd hx hb dX0_trueCount_55 ?_
    exact ke_i hx hb hr hlk dX0_trueCount_56 (by first | rfl | (try delta pTrue; simp only [if_pos c_40, bI_true, bI_false]))
  · refine lv_aload_n hx hb dX0_trueCount_43 rfl (lv_at hl 2 rfl) ?_
    refine k_get (ci := 0) (C := RX0) (T := TX0) (N := 13) hx hb hown hG rfl kin_X0 hI.1 11 (by decide) wF_X0_73 rfl dX0_trueCount_44 ?_
    refine lv_goto (tgt := 55) hx hb dX0_trueCount_47 (by decide) ?_
    refine lv_iadd hx hb dX0_trueCount_55 ?_
    exact ke_i hx hb hr hlk dX0_trueCount_56 (by first | rfl | (try delta pTrue; simp only [if_neg c_40, bI_true, bI_false]))
set_option maxHeartbeats 4000000 in
set_option maxRecDepth 100000 in
theorem c_X0_airDelay (l : Launch) (D : va_G) (cy : Nat → ClassId) (a b q2 q3 : Nat) (v r : Nat → Int32) : Met l yX0_airDelay [.code yX0_airDelay cX0_airDelay 3 (some .int)] ({ frames := 2, cells := 0, slots := 0, locals := 42 } : Room) (PC D cy [.ref a, .ref b] (fun H => va_P D vwCl [(a, .inr (0, rcF v q2 q3))] H ∧ va_P D vwCl [(b, .inr (3, stF r))] H)) (RQi (pAir v r)) 0 0 (fun _ => False) := by
  refine k_body (by decide +kernel) (Nat.le_of_ble_eq_true rfl) ?_
  intro p e s m below meth c ls hx hb hml hown hr hlk hmn hl hG hI
  have hml9 : c.maxLocals = 3 := hml.trans hl.1
  have hl : lv_has ls 3 [(0, .ref a), (1, .ref b)] := hl
  refine lv_aload_n hx hb dX0_airDelay_0 rfl (lv_at hl 0 rfl) ?_
  refine k_get (ci := 0) (C := RX0) (T := TX0) (N := 13) hx hb hown hG rfl kin_X0 hI.1 9 (by decide) wF_X0_30 rfl dX0_airDelay_1 ?_
  refine lv_if_eq (tgt := 9) hx hb dX0_airDelay_4 (by decide) (fun c_4 => ?_) (fun c_4 => ?_)
  · refine lv_aload_n hx hb dX0_airDelay_9 rfl (lv_at hl 1 rfl) ?_
    refine lv_iconst (v := 0) hx hb dX0_airDelay_10 (by decide) ?_
    refine kc_i (kr_VN (As := [.int 0]) (rest := []) hx hb hml hown hG (c_X3_xIn l D cy b r 0) cf_X3_xIn wMN_X0_54 hI.2 rfl hI.2 ⟨rfl, rfl, by decide, by decide⟩ rfl rfl (Nat.le_of_ble_eq_true rfl) ⟨Nat.le_of_ble_eq_true rfl, Nat.le_of_ble_eq_true rfl⟩ dX0_airDelay_11) ?_
    refine lv_aload_n hx hb dX0_airDelay_14 rfl (lv_at hl 0 rfl) ?_
    refine k_get (ci := 0) (C := RX0) (T := TX0) (N := 13) hx hb hown hG rfl kin_X0 hI.1 4 (by decide) wF_X0_15 rfl dX0_airDelay_15 ?_
    refine lv_isub hx hb dX0_airDelay_18 ?_
    refine k_mabs hx hb hml hown hG wM_X0_76 (Nat.le_of_ble_eq_true rfl) (Nat.le_of_ble_eq_true rfl) (Nat.le_of_ble_eq_true rfl) (Nat.le_of_ble_eq_true rfl) dX0_airDelay_19 ?_
    refine lv_aload_n hx hb dX0_airDelay_22 rfl (lv_at hl 1 rfl) ?_
    refine lv_iconst (v := 0) hx hb dX0_airDelay_23 (by decide) ?_
    refine kc_i (kr_VN (As := [.int 0]) (rest := [.int (pAbs ((pX r 0) - v 4))]) hx hb hml hown hG (c_X3_yIn l D cy b r 0) cf_X3_yIn wMN_X0_63 hI.2 rfl hI.2 ⟨rfl, rfl, by decide, by decide⟩ rfl rfl (Nat.le_of_ble_eq_true rfl) ⟨Nat.le_of_ble_eq_true rfl, Nat.le_of_ble_eq_true rfl⟩ dX0_airDelay_24) ?_
    refine lv_aload_n hx hb dX0_airDelay_27 rfl (lv_at hl 0 rfl) ?_
    refine k_get (ci := 0) (C := RX0) (T := TX0) (N := 13) hx hb hown hG rfl kin_X0 hI.1 5 (by decide) wF_X0_18 rfl dX0_airDelay_28 ?_
    refine lv_isub hx hb dX0_airDelay_31 ?_
    refine k_mabs hx hb hml hown hG wM_X0_76 (Nat.le_of_ble_eq_true rfl) (Nat.le_of_ble_eq_true rfl) (Nat.le_of_ble_eq_true rfl) (Nat.le_of_ble_eq_true rfl) dX0_airDelay_32 ?_
    refine lv_icmp_le (tgt := 42) hx hb dX0_airDelay_35 (by decide) (fun c_35 => ?_) (fun c_35 => ?_)
    · refine lv_iconst (v := 0) hx hb dX0_airDelay_42 (by decide) ?_
      refine lv_istore_n (lv' := [(2, .int 0), (0, .ref a), (1, .ref b)]) hx hb dX0_airDelay_43 rfl hl (by decide) rfl (fun ls hl => ?_)
      have hml : c.maxLocals = ls.size := hml9.trans hl.1.symm
      refine lv_iload_n hx hb dX0_airDelay_44 rfl (lv_at hl 0 rfl) ?_
      refine lv_if_eq (tgt := 57) hx hb dX0_airDelay_45 (by decide) (fun _ => ?_) (fun q9 => absurd rfl q9)
      refine lv_aload_n hx hb dX0_airDelay_57 rfl (lv_at hl 1 rfl) ?_
      refine k_get (ci := 0) (C := RX0) (T := TX0) (N := 13) hx hb hown hG rfl kin_X0 hI.1 8 (by decide) wF_X0_81 rfl dX0_airDelay_58 ?_
      exact ke_i hx hb hr hlk dX0_airDelay_61 (by first | rfl | (try delta pAir; simp only [if_pos c_4, if_pos c_35, bI_true, bI_false]))
    · refine lv_iconst (v := 1) hx hb dX0_airDelay_38 (by decide) ?_
      refine lv_goto (tgt := 43) hx hb dX0_airDelay_39 (by decide) ?_
      refine lv_istore_n (lv' := [(2, .int 1), (0, .ref a), (1, .ref b)]) hx hb dX0_airDelay_43 rfl hl (by decide) rfl (fun ls hl => ?_)
      have hml : c.maxLocals = ls.size := hml9.trans hl.1.symm
      refine lv_iload_n hx hb dX0_airDelay_44 rfl (lv_at hl 0 rfl) ?_
      refine lv_if_eq (tgt := 57) hx hb dX0_airDelay_45 (by decide) (fun q9 => absurd q9 (by decide)) (fun _ => ?_)
      refine lv_iconst (v := 2) hx hb dX0_airDelay_48 (by decide) ?_
      refine lv_aload_n hx hb dX0_airDelay_49 rfl (lv_at hl 1 rfl) ?_
      refine k_get (ci := 0) (C := RX0) (T := TX0) (N := 13) hx hb hown hG rfl kin_X0 hI.1 8 (by decide) wF_X0_81 rfl dX0_airDelay_50 ?_
      refine lv_imul hx hb dX0_airDelay_53 ?_
      refine lv_goto (tgt := 61) hx hb dX0_airDelay_54 (by decide) ?_
      exact ke_i hx hb hr hlk dX0_airDelay_61 (by first | rfl | (try delta pAir; simp only [if_pos c_4, if_neg c_35, bI_true, bI_false]))
  · refine lv_iconst (v := 0) hx hb dX0_airDelay_7 (by decide) ?_
    exact ke_i hx hb hr hlk dX0_airDelay_8 (by first | rfl | (try delta pAir; simp only [if_neg c_4, bI_true, bI_false]))
set_option maxHeartbeats 4000000 in
set_option maxRecDepth 100000 in
theorem c_X1_measured (l : Launch) (D : va_G) (cy : Nat → ClassId) (a : Nat) (g : Nat → Int32) : Met l yX1_measured [.code yX1_measured cX1_measured 1 (some .int)] ({ frames := 0, cells := 0, slots := 0, locals := 0 } : Room) (PC D cy [.ref a] (fun H => va_P D vwCl [(a, .inr (1, stF g))] H)) (RQi (pMeas g)) 0 0 (fun _ => False) := by
  refine k_body (by decide +kernel) (Nat.le_of_ble_eq_true rfl) ?_
  intro p e s m below meth c ls hx hb hml hown hr hlk hmn hl hG hI
  have hml9 : c.maxLocals = 1 := hml.trans hl.1
  have hl : lv_has ls 1 [(0, .ref a)] := hl
  refine lv_aload_n hx hb dX1_measured_0 rfl (lv_at hl 0 rfl) ?_
  refine k_get (ci := 1) (C := RX1) (T := TX1) (N := 11) hx hb hown hG rfl kin_X1 hI 1 (by decide) wF_X1_47 rfl dX1_measured_1 ?_
  refine lv_if_eq (tgt := 22) hx hb dX1_measured_4 (by decide) (fun c_4 => ?_) (fun c_4 => ?_)
  · refine lv_aload_n hx hb dX1_measured_22 rfl (lv_at hl 0 rfl) ?_
    refine k_get (ci := 1) (C := RX1) (T := TX1) (N := 11) hx hb hown hG rfl kin_X1 hI 3 (by decide) wF_X1_18 rfl dX1_measured_23 ?_
    exact ke_i hx hb hr hlk dX1_measured_26 (by first | rfl | (try delta pMeas; simp only [if_pos c_4, bI_true, bI_false]))
  · refine lv_aload_n hx hb dX1_measured_7 rfl (lv_at hl 0 rfl) ?_
    refine k_get (ci := 1) (C := RX1) (T := TX1) (N := 11) hx hb hown hG rfl kin_X1 hI 4 (by decide) wF_X1_22 rfl dX1_measured_8 ?_
    refine lv_bipush (v := 10) hx hb dX1_measured_11 (by decide) ?_
    refine lv_aload_n hx hb dX1_measured_13 rfl (lv_at hl 0 rfl) ?_
    refine k_get (ci := 1) (C := RX1) (T := TX1) (N := 11) hx hb hown hG rfl kin_X1 hI 5 (by decide) wF_X1_31 rfl dX1_measured_14 ?_
    refine lv_imul hx hb dX1_measured_17 ?_
    refine lv_iadd hx hb dX1_measured_18 ?_
    refine lv_goto (tgt := 26) hx hb dX1_measured_19 (by decide) ?_
    exact ke_i hx hb hr hlk dX1_measured_26 (by first | rfl | (try delta pMeas; simp only [if_neg c_4, bI_true, bI_false]))
set_option maxHeartbeats 4000000 in
set_option maxRecDepth 100000 in
theorem c_X1_tellSeen (l : Launch) (D : va_G) (cy : Nat → ClassId) (a : Nat) (g : Nat → Int32) (w : Int32) : Met l yX1_tellSeen [.code yX1_tellSeen cX1_tellSeen 2 (some .int)] ({ frames := 0, cells := 0, slots := 0, locals := 0 } : Room) (PC D cy [.ref a, .int w] (fun H => va_P D vwCl [(a, .inr (1, stF g))] H)) (RQi (pTellS g w)) 0 0 (fun _ => False) := by
  refine k_body (by decide +kernel) (Nat.le_of_ble_eq_true rfl) ?_
  intro p e s m below meth c ls hx hb hml hown hr hlk hmn hl hG hI
  have hml9 : c.maxLocals = 2 := hml.trans hl.1
  have hl : lv_has ls 2 [(0, .ref a), (1, .int w)] := hl
  refine lv_iload_n hx hb dX1_tellSeen_0 rfl (lv_at hl 1 rfl) ?_
  by_cases w_0 : w = 0
  · refine lv_tableIn (off := 35) (tgt := 36) hx hb dX1_tellSeen_1 (by rw [w_0]; decide) (by rw [w_0]; decide) (by rw [w_0]; rfl) (by decide) ?_
    refine lv_aload_n hx hb dX1_tellSeen_36 rfl (lv_at hl 0 rfl) ?_
    refine k_get (ci := 1) (C := RX1) (T := TX1) (N := 11) hx hb hown hG rfl kin_X1 hI 3 (by decide) wF_X1_18 rfl dX1_tellSeen_37 ?_
    exact ke_i hx hb hr hlk dX1_tellSeen_40 (by first | rfl | (try delta pTellS; simp only [if_pos w_0, bI_true, bI_false]))
  by_cases w_1 : w = 1
  · refine lv_tableIn (off := 40) (tgt := 41) hx hb dX1_tellSeen_1 (by rw [w_1]; decide) (by rw [w_1]; decide) (by rw [w_1]; rfl) (by decide) ?_
    refine lv_aload_n hx hb dX1_tellSeen_41 rfl (lv_at hl 0 rfl) ?_
    refine k_get (ci := 1) (C := RX1) (T := TX1) (N := 11) hx hb hown hG rfl kin_X1 hI 4 (by decide) wF_X1_22 rfl dX1_tellSeen_42 ?_
    exact ke_i hx hb hr hlk dX1_tellSeen_45 (by first | rfl | (try delta pTellS; simp only [if_neg w_0, if_pos w_1, bI_true, bI_false]))
  by_cases w_2 : w = 2
  · refine lv_tableIn (off := 45) (tgt := 46) hx hb dX1_tellSeen_1 (by rw [w_2]; decide) (by rw [w_2]; decide) (by rw [w_2]; rfl) (by decide) ?_
    refine lv_aload_n hx hb dX1_tellSeen_46 rfl (lv_at hl 0 rfl) ?_
    refine k_get (ci := 1) (C := RX1) (T := TX1) (N := 11) hx hb hown hG rfl kin_X1 hI 5 (by decide) wF_X1_31 rfl dX1_tellSeen_47 ?_
    exact ke_i hx hb hr hlk dX1_tellSeen_50 (by first | rfl | (try delta pTellS; simp only [if_neg w_0, if_neg w_1, if_pos w_2, bI_true, bI_false]))
  by_cases w_3 : w = 3
  · refine lv_tableIn (off := 50) (tgt := 51) hx hb dX1_tellSeen_1 (by rw [w_3]; decide) (by rw [w_3]; decide) (by rw [w_3]; rfl) (by decide) ?_
    refine lv_aload_n hx hb dX1_tellSeen_51 rfl (lv_at hl 0 rfl) ?_
    refine k_get (ci := 1) (C := RX1) (T := TX1) (N := 11) hx hb hown hG rfl kin_X1 hI 6 (by decide) wF_X1_34 rfl dX1_tellSeen_52 ?_
    exact ke_i hx hb hr hlk dX1_tellSeen_55 (by first | rfl | (try delta pTellS; simp only [if_neg w_0, if_neg w_1, if_neg w_2, if_pos w_3, bI_true, bI_false]))
  by_cases w_4 : w = 4
  · refine lv_tableIn (off := 55) (tgt := 56) hx hb dX1_tellSeen_1 (by rw [w_4]; decide) (by rw [w_4]; decide) (by rw [w_4]; rfl) (by decide) ?_
    refine lv_aload_n hx hb dX1_tellSeen_56 rfl (lv_at hl 0 rfl) ?_
    refine k_get (ci := 1) (C := RX1) (T := TX1) (N := 11) hx hb hown hG rfl kin_X1 hI 7 (by decide) wF_X1_37 rfl dX1_tellSeen_57 ?_
    exact ke_i hx hb hr hlk dX1_tellSeen_60 (by first | rfl | (try delta pTellS; simp only [if_neg w_0, if_neg w_1, if_neg w_2, if_neg w_3, if_pos w_4, bI_true, bI_false]))
  have t_0 : ¬ w.toInt = 0 := lv_neT w_0 (by decide)
  have t_1 : ¬ w.toInt = 1 := lv_neT w_1 (by decide)
  have t_2 : ¬ w.toInt = 2 := lv_neT w_2 (by decide)
  have t_3 : ¬ w.toInt = 3 := lv_neT w_3 (by decide)
  have t_4 : ¬ w.toInt = 4 := lv_neT w_4 (by decide)
  refine lv_tableOut (tgt := 61) hx hb dX1_tellSeen_1 (by omega) (by decide) ?_
  refine lv_aload_n hx hb dX1_tellSeen_61 rfl (lv_at hl 0 rfl) ?_
  refine k_get (ci := 1) (C := RX1) (T := TX1) (N := 11) hx hb hown hG rfl kin_X1 hI 9 (by decide) wF_X1_53 rfl dX1_tellSeen_62 ?_
  exact ke_i hx hb hr hlk dX1_tellSeen_65 (by first | rfl | (try delta pTellS; simp only [if_neg w_0, if_neg w_1, if_neg w_2, if_neg w_3, if_neg w_4, bI_true, bI_false]))
set_option maxHeartbeats 4000000 in
set_option maxRecDepth 100000 in
theorem c_X1_tell (l : Launch) (D : va_G) (cy : Nat → ClassId) (a : Nat) (g : Nat → Int32) (w : Int32) : Met l yX1_tell [.code yX1_tell cX1_tell 2 (some .int)] ({ frames := 1, cells := 0, slots := 0, locals := 21 } : Room) (PC D cy [.ref a, .int w] (fun H => va_P D vwCl [(a, .inr (1, stF g))] H)) (RQi (pTellG g w)) 0 0 (fun _ => False) := by
  refine k_body (by decide +kernel) (Nat.le_of_ble_eq_true rfl) ?_
  intro p e s m below meth c ls hx hb hml hown hr hlk hmn hl hG hI
  have hml9 : c.maxLocals = 2 := hml.trans hl.1
  have hl : lv_has ls 2 [(0, .ref a), (1, .int w)] := hl
  refine lv_iload_n hx hb dX1_tell_0 rfl (lv_at hl 1 rfl) ?_
  refine lv_iconst (v := 5) hx hb dX1_tell_1 (by decide) ?_
  refine lv_icmp_ne (tgt := 18) hx hb dX1_tell_2 (by decide) (fun c_2 => ?_) (fun c_2 => ?_)
  · refine lv_iload_n hx hb dX1_tell_18 rfl (lv_at hl 1 rfl) ?_
    refine lv_bipush (v := 6) hx hb dX1_tell_19 (by decide) ?_
    refine lv_icmp_ne (tgt := 37) hx hb dX1_tell_21 (by decide) (fun c_21 => ?_) (fun c_21 => ?_)
    · refine lv_aload_n hx hb dX1_tell_37 rfl (lv_at hl 0 rfl) ?_
      refine k_get (ci := 1) (C := RX1) (T := TX1) (N := 11) hx hb hown hG rfl kin_X1 hI 0 (by decide) wF_X1_9 rfl dX1_tell_38 ?_
      refine lv_if_eq (tgt := 52) hx hb dX1_tell_41 (by decide) (fun c_41 => ?_) (fun c_41 => ?_)
      · refine lv_iconst (v := (-1)) hx hb dX1_tell_52 (by decide) ?_
        exact ke_i hx hb hr hlk dX1_tell_53 (by first | rfl | (try delta pTellG; simp only [if_neg c_2, if_neg c_21, if_pos c_41, bI_true, bI_false]))
      · refine lv_aload_n hx hb dX1_tell_44 rfl (lv_at hl 0 rfl) ?_
        refine lv_iload_n hx hb dX1_tell_45 rfl (lv_at hl 1 rfl) ?_
        refine kc_i (kr_V (As := [.int w]) (rest := []) hx hb hml hown hG (c_X1_tellSeen l D cy a g w) cf_X1_tellSeen wM_X1_59 hI rfl hI ⟨rfl, rfl, by decide, by decide⟩ rfl rfl (Nat.le_of_ble_eq_true rfl) ⟨Nat.le_of_ble_eq_true rfl, Nat.le_of_ble_eq_true rfl⟩ dX1_tell_46) ?_
        refine lv_goto (tgt := 53) hx hb dX1_tell_49 (by decide) ?_
        exact ke_i hx hb hr hlk dX1_tell_53 (by first | rfl | (try delta pTellG; simp only [if_neg c_2, if_neg c_21, if_neg c_41, bI_true, bI_false]))
    · refine lv_aload_n hx hb dX1_tell_24 rfl (lv_at hl 0 rfl) ?_
      refine k_get (ci := 1) (C := RX1) (T := TX1) (N := 11) hx hb hown hG rfl kin_X1 hI 2 (by decide) wF_X1_50 rfl dX1_tell_25 ?_
      refine lv_if_eq (tgt := 35) hx hb dX1_tell_28 (by decide) (fun c_28 => ?_) (fun c_28 => ?_)
      · refine lv_iconst (v := 0) hx hb dX1_tell_35 (by decide) ?_
        exact ke_i hx hb hr hlk dX1_tell_36 (by first | rfl | (try delta pTellG; simp only [if_neg c_2, if_pos c_21, if_pos c_28, bI_true, bI_false]))
      · refine lv_iconst (v := 1) hx hb dX1_tell_31 (by decide) ?_
        refine lv_goto (tgt := 36) hx hb dX1_tell_32 (by decide) ?_
        exact ke_i hx hb hr hlk dX1_tell_36 (by first | rfl | (try delta pTellG; simp only [if_neg c_2, if_pos c_21, if_neg c_28, bI_true, bI_false]))
  · refine lv_aload_n hx hb dX1_tell_5 rfl (lv_at hl 0 rfl) ?_
    refine k_get (ci := 1) (C := RX1) (T := TX1) (N := 11) hx hb hown hG rfl kin_X1 hI 1 (by decide) wF_X1_47 rfl dX1_tell_6 ?_
    refine lv_if_eq (tgt := 16) hx hb dX1_tell_9 (by decide) (fun c_9 => ?_) (fun c_9 => ?_)
    · refine lv_iconst (v := 0) hx hb dX1_tell_16 (by decide) ?_
      exact ke_i hx hb hr hlk dX1_tell_17 (by first | rfl | (try delta pTellG; simp only [if_pos c_2, if_pos c_9, bI_true, bI_false]))
    · refine lv_iconst (v := 1) hx hb dX1_tell_12 (by decide) ?_
      refine lv_goto (tgt := 17) hx hb dX1_tell_13 (by decide) ?_
      exact ke_i hx hb hr hlk dX1_tell_17 (by first | rfl | (try delta pTellG; simp only [if_pos c_2, if_neg c_9, bI_true, bI_false]))
set_option maxHeartbeats 4000000 in
set_option maxRecDepth 100000 in
theorem c_X5_hasObservedIn (l : Launch) (D : va_G) (cy : Nat → ClassId) (a : Nat) (t : Nat → Int32) (ep : Int32) : Met l yX5_hasObservedIn [.code yX5_hasObservedIn cX5_hasObservedIn 2 (some .boolean)] ({ frames := 0, cells := 0, slots := 0, locals := 0 } : Room) (PC D cy [.ref a, .int ep] (fun H => va_P D vwCl [(a, .inr (5, trF t))] H)) (RQi (bI (pObsIn t ep))) 0 0 (fun _ => False) := by
  refine k_body (by decide +kernel) (Nat.le_of_ble_eq_true rfl) ?_
  intro p e s m below meth c ls hx hb hml hown hr hlk hmn hl hG hI
  have hml9 : c.maxLocals = 2 := hml.trans hl.1
  have hl : lv_has ls 2 [(0, .ref a), (1, .int ep)] := hl
  refine lv_aload_n hx hb dX5_hasObservedIn_0 rfl (lv_at hl 0 rfl) ?_
  refine k_get (ci := 5) (C := RX5) (T := TX5) (N := 13) hx hb hown hG rfl kin_X5 hI 0 (by decide) wF_X5_21 rfl dX5_hasObservedIn_1 ?_
  refine lv_if_le (tgt := 19) hx hb dX5_hasObservedIn_4 (by decide) (fun c_4 => ?_) (fun c_4 => ?_)
  · refine lv_iconst (v := 0) hx hb dX5_hasObservedIn_19 (by decide) ?_
    exact ke_z hx hb hr hlk dX5_hasObservedIn_20 (by first | rfl | (try delta pObsIn; simp only [if_pos c_4, bI_true, bI_false]))
  · refine lv_aload_n hx hb dX5_hasObservedIn_7 rfl (lv_at hl 0 rfl) ?_
    refine k_get (ci := 5) (C := RX5) (T := TX5) (N := 13) hx hb hown hG rfl kin_X5 hI 1 (by decide) wF_X5_9 rfl dX5_hasObservedIn_8 ?_
    refine lv_iload_n hx hb dX5_hasObservedIn_11 rfl (lv_at hl 1 rfl) ?_
    refine lv_icmp_ne (tgt := 19) hx hb dX5_hasObservedIn_12 (by decide) (fun c_12 => ?_) (fun c_12 => ?_)
    · refine lv_iconst (v := 0) hx hb dX5_hasObservedIn_19 (by decide) ?_
      exact ke_z hx hb hr hlk dX5_hasObservedIn_20 (by first | rfl | (try delta pObsIn; simp only [if_neg c_4, if_neg c_12, bI_true, bI_false]))
    · refine lv_iconst (v := 1) hx hb dX5_hasObservedIn_15 (by decide) ?_
      refine lv_goto (tgt := 20) hx hb dX5_hasObservedIn_16 (by decide) ?_
      exact ke_z hx hb hr hlk dX5_hasObservedIn_20 (by first | rfl | (try delta pObsIn; simp only [if_neg c_4, if_pos c_12, bI_true, bI_false]))
set_option maxHeartbeats 4000000 in
set_option maxRecDepth 100000 in
theorem c_X5_hasObservedSince (l : Launch) (D : va_G) (cy : Nat → ClassId) (a : Nat) (t : Nat → Int32) (ep : Int32) : Met l yX5_hasObservedSince [.code yX5_hasObservedSince cX5_hasObservedSince 2 (some .boolean)] ({ frames := 0, cells := 0, slots := 0, locals := 0 } : Room) (PC D cy [.ref a, .int ep] (fun H => va_P D vwCl [(a, .inr (5, trF t))] H)) (RQi (bI (pObsSince t ep))) 0 0 (fun _ => False) := by
  refine k_body (by decide +kernel) (Nat.le_of_ble_eq_true rfl) ?_
  intro p e s m below meth c ls hx hb hml hown hr hlk hmn hl hG hI
  have hml9 : c.maxLocals = 2 := hml.trans hl.1
  have hl : lv_has ls 2 [(0, .ref a), (1, .int ep)] := hl
  refine lv_aload_n hx hb dX5_hasObservedSince_0 rfl (lv_at hl 0 rfl) ?_
  refine k_get (ci := 5) (C := RX5) (T := TX5) (N := 13) hx hb hown hG rfl kin_X5 hI 0 (by decide) wF_X5_21 rfl dX5_hasObservedSince_1 ?_
  refine lv_if_le (tgt := 19) hx hb dX5_hasObservedSince_4 (by decide) (fun c_4 => ?_) (fun c_4 => ?_)
  · refine lv_iconst (v := 0) hx hb dX5_hasObservedSince_19 (by decide) ?_
    exact ke_z hx hb hr hlk dX5_hasObservedSince_20 (by first | rfl | (try delta pObsSince; simp only [if_pos c_4, bI_true, bI_false]))
  · refine lv_aload_n hx hb dX5_hasObservedSince_7 rfl (lv_at hl 0 rfl) ?_
    refine k_get (ci := 5) (C := RX5) (T := TX5) (N := 13) hx hb hown hG rfl kin_X5 hI 1 (by decide) wF_X5_9 rfl dX5_hasObservedSince_8 ?_
    refine lv_iload_n hx hb dX5_hasObservedSince_11 rfl (lv_at hl 1 rfl) ?_
    refine lv_icmp_lt (tgt := 19) hx hb dX5_hasObservedSince_12 (by decide) (fun c_12 => ?_) (fun c_12 => ?_)
    · refine lv_iconst (v := 0) hx hb dX5_hasObservedSince_19 (by decide) ?_
      exact ke_z hx hb hr hlk dX5_hasObservedSince_20 (by first | rfl | (try delta pObsSince; simp only [if_neg c_4, if_pos c_12, bI_true, bI_false]))
    · refine lv_iconst (v := 1) hx hb dX5_hasObservedSince_15 (by decide) ?_
      refine lv_goto (tgt := 20) hx hb dX5_hasObservedSince_16 (by decide) ?_
      exact ke_z hx hb hr hlk dX5_hasObservedSince_20 (by first | rfl | (try delta pObsSince; simp only [if_neg c_4, if_neg c_12, bI_true, bI_false]))
set_option maxHeartbeats 4000000 in
set_option maxRecDepth 100000 in
theorem c_X5_leapsTo (l : Launch) (D : va_G) (cy : Nat → ClassId) (a : Nat) (t : Nat → Int32) (x y ep : Int32) : Met l yX5_leapsTo [.code yX5_leapsTo cX5_leapsTo 4 (some .boolean)] ({ frames := 2, cells := 0, slots := 0, locals := 46 } : Room) (PC D cy [.ref a, .int x, .int y, .int ep] (fun H => va_P D vwCl [(a, .inr (5, trF t))] H)) (RQi (bI (pLeaps t x y ep))) 0 0 (fun _ => False) := by
  refine k_body (by decide +kernel) (Nat.le_of_ble_eq_true rfl) ?_
  intro p e s m below meth c ls hx hb hml hown hr hlk hmn hl hG hI
  have hml9 : c.maxLocals = 4 := hml.trans hl.1
  have hl : lv_has ls 4 [(0, .ref a), (1, .int x), (2, .int y), (3, .int ep)] := hl
  refine lv_aload_n hx hb dX5_leapsTo_0 rfl (lv_at hl 0 rfl) ?_
  refine lv_iload_n hx hb dX5_leapsTo_1 rfl (lv_at hl 3 rfl) ?_
  refine lv_iconst (v := 1) hx hb dX5_leapsTo_2 (by decide) ?_
  refine lv_isub hx hb dX5_leapsTo_3 ?_
  refine kc_i (kr_V (As := [.int (ep - 1)]) (rest := []) hx hb hml hown hG (c_X5_hasObservedIn l D cy a t (ep - 1)) cf_X5_hasObservedIn wM_X5_24 hI rfl hI ⟨rfl, rfl, by decide, by decide⟩ rfl rfl (Nat.le_of_ble_eq_true rfl) ⟨Nat.le_of_ble_eq_true rfl, Nat.le_of_ble_eq_true rfl⟩ dX5_leapsTo_4) ?_
  refine lv_if_eq (tgt := 39) hx hb dX5_leapsTo_7 (by decide) (fun c_7 => ?_) (fun c_7 => ?_)
  · refine lv_iconst (v := 0) hx hb dX5_leapsTo_39 (by decide) ?_
    exact ke_z hx hb hr hlk dX5_leapsTo_40 (by first | rfl | (try delta pLeaps; simp only [if_pos c_7, bI_true, bI_false]))
  · refine lv_aload_n hx hb dX5_leapsTo_10 rfl (lv_at hl 0 rfl) ?_
    refine k_get (ci := 5) (C := RX5) (T := TX5) (N := 13) hx hb hown hG rfl kin_X5 hI 2 (by decide) wF_X5_28 rfl dX5_leapsTo_11 ?_
    refine lv_iconst (v := 3) hx hb dX5_leapsTo_14 (by decide) ?_
    refine lv_icmp_lt (tgt := 39) hx hb dX5_leapsTo_15 (by decide) (fun c_15 => ?_) (fun c_15 => ?_)
    · refine lv_iconst (v := 0) hx hb dX5_leapsTo_39 (by decide) ?_
      exact ke_z hx hb hr hlk dX5_leapsTo_40 (by first | rfl | (try delta pLeaps; simp only [if_neg c_7, if_pos c_15, bI_true, bI_false]))
    · refine lv_aload_n hx hb dX5_leapsTo_18 rfl (lv_at hl 0 rfl) ?_
      refine k_get (ci := 5) (C := RX5) (T := TX5) (N := 13) hx hb hown hG rfl kin_X5 hI 5 (by decide) wF_X5_31 rfl dX5_leapsTo_19 ?_
      refine lv_aload_n hx hb dX5_leapsTo_22 rfl (lv_at hl 0 rfl) ?_
      refine k_get (ci := 5) (C := RX5) (T := TX5) (N := 13) hx hb hown hG rfl kin_X5 hI 6 (by decide) wF_X5_34 rfl dX5_leapsTo_23 ?_
      refine lv_iload_n hx hb dX5_leapsTo_26 rfl (lv_at hl 1 rfl) ?_
      refine lv_iload_n hx hb dX5_leapsTo_27 rfl (lv_at hl 2 rfl) ?_
      refine kc_i (kr_SN (As := [.int (t 5), .int (t 6), .int x, .int y]) (rest := []) hx hb hml hown hG (c_X6_rangeOf l D cy (t 5) (t 6) x y) cf_X6_rangeOf wMN_X5_37 trivial ⟨rfl, rfl, by decide, by decide⟩ rfl rfl (Nat.le_of_ble_eq_true rfl) ⟨Nat.le_of_ble_eq_true rfl, Nat.le_of_ble_eq_true rfl⟩ dX5_leapsTo_28) ?_
      refine lv_iconst (v := 4) hx hb dX5_leapsTo_31 (by decide) ?_
      refine lv_icmp_le (tgt := 39) hx hb dX5_leapsTo_32 (by decide) (fun c_32 => ?_) (fun c_32 => ?_)
      · refine lv_iconst (v := 0) hx hb dX5_leapsTo_39 (by decide) ?_
        exact ke_z hx hb hr hlk dX5_leapsTo_40 (by first | rfl | (try delta pLeaps; simp only [if_neg c_7, if_neg c_15, if_pos c_32, bI_true, bI_false]))
      · refine lv_iconst (v := 1) hx hb dX5_leapsTo_35 (by decide) ?_
        refine lv_goto (tgt := 40) hx hb dX5_leapsTo_36 (by decide) ?_
        exact ke_z hx hb hr hlk dX5_leapsTo_40 (by first | rfl | (try delta pLeaps; simp only [if_neg c_7, if_neg c_15, if_neg c_32, bI_true, bI_false]))
set_option maxHeartbeats 4000000 in
set_option maxRecDepth 100000 in
theorem c_X5_errorAt (l : Launch) (D : va_G) (cy : Nat → ClassId) (a : Nat) (t : Nat → Int32) (x y : Int32) : Met l yX5_errorAt [.code yX5_errorAt cX5_errorAt 3 (some .int)] ({ frames := 2, cells := 0, slots := 0, locals := 46 } : Room) (PC D cy [.ref a, .int x, .int y] (fun H => va_P D vwCl [(a, .inr (5, trF t))] H)) (RQi (pErrAt t x y)) 0 0 (fun _ => False) := by
  refine k_body (by decide +kernel) (Nat.le_of_ble_eq_true rfl) ?_
  intro p e s m below meth c ls hx hb hml hown hr hlk hmn hl hG hI
  have hml9 : c.maxLocals = 3 := hml.trans hl.1
  have hl : lv_has ls 3 [(0, .ref a), (1, .int x), (2, .int y)] := hl
  refine lv_aload_n hx hb dX5_errorAt_0 rfl (lv_at hl 0 rfl) ?_
  refine k_get (ci := 5) (C := RX5) (T := TX5) (N := 13) hx hb hown hG rfl kin_X5 hI 3 (by decide) wF_X5_68 rfl dX5_errorAt_1 ?_
  refine lv_if_ne (tgt := 11) hx hb dX5_errorAt_4 (by decide) (fun c_4 => ?_) (fun c_4 => ?_)
  · refine lv_aload_n hx hb dX5_errorAt_11 rfl (lv_at hl 0 rfl) ?_
    refine k_get (ci := 5) (C := RX5) (T := TX5) (N := 13) hx hb hown hG rfl kin_X5 hI 5 (by decide) wF_X5_31 rfl dX5_errorAt_12 ?_
    refine lv_aload_n hx hb dX5_errorAt_15 rfl (lv_at hl 0 rfl) ?_
    refine k_get (ci := 5) (C := RX5) (T := TX5) (N := 13) hx hb hown hG rfl kin_X5 hI 6 (by decide) wF_X5_34 rfl dX5_errorAt_16 ?_
    refine lv_iload_n hx hb dX5_errorAt_19 rfl (lv_at hl 1 rfl) ?_
    refine lv_iload_n hx hb dX5_errorAt_20 rfl (lv_at hl 2 rfl) ?_
    refine kc_i (kr_SN (As := [.int (t 5), .int (t 6), .int x, .int y]) (rest := []) hx hb hml hown hG (c_X6_rangeOf l D cy (t 5) (t 6) x y) cf_X6_rangeOf wMN_X5_37 trivial ⟨rfl, rfl, by decide, by decide⟩ rfl rfl (Nat.le_of_ble_eq_true rfl) ⟨Nat.le_of_ble_eq_true rfl, Nat.le_of_ble_eq_true rfl⟩ dX5_errorAt_21) ?_
    exact ke_i hx hb hr hlk dX5_errorAt_24 (by first | rfl | (try delta pErrAt; simp only [if_neg c_4, bI_true, bI_false]))
  · refine lv_iconst (v := 0) hx hb dX5_errorAt_7 (by decide) ?_
    refine lv_goto (tgt := 24) hx hb dX5_errorAt_8 (by decide) ?_
    exact ke_i hx hb hr hlk dX5_errorAt_24 (by first | rfl | (try delta pErrAt; simp only [if_pos c_4, bI_true, bI_false]))
set_option maxHeartbeats 4000000 in
set_option maxRecDepth 100000 in
theorem c_X5_tell (l : Launch) (D : va_G) (cy : Nat → ClassId) (a : Nat) (t : Nat → Int32) (w : Int32) : Met l yX5_tell [.code yX5_tell cX5_tell 2 (some .int)] ({ frames := 0, cells := 0, slots := 0, locals := 0 } : Room) (PC D cy [.ref a, .int w] (fun H => va_P D vwCl [(a, .inr (5, trF t))] H)) (RQi (pTellT t w)) 0 0 (fun _ => False) := by
  refine k_body (by decide +kernel) (Nat.le_of_ble_eq_true rfl) ?_
  intro p e s m below meth c ls hx hb hml hown hr hlk hmn hl hG hI
  have hml9 : c.maxLocals = 2 := hml.trans hl.1
  have hl : lv_has ls 2 [(0, .ref a), (1, .int w)] := hl
  refine lv_iload_n hx hb dX5_tell_0 rfl (lv_at hl 1 rfl) ?_
  by_cases w_3 : w = 3
  · refine lv_tableIn (off := 51) (tgt := 52) hx hb dX5_tell_1 (by rw [w_3]; decide) (by rw [w_3]; decide) (by rw [w_3]; rfl) (by decide) ?_
    refine lv_aload_n hx hb dX5_tell_52 rfl (lv_at hl 0 rfl) ?_
    refine k_get (ci := 5) (C := RX5) (T := TX5) (N := 13) hx hb hown hG rfl kin_X5 hI 1 (by decide) wF_X5_9 rfl dX5_tell_53 ?_
    exact ke_i hx hb hr hlk dX5_tell_56 (by first | rfl | (try delta pTellT; simp only [if_pos w_3, bI_true, bI_false]))
  by_cases w_4 : w = 4
  · refine lv_tableIn (off := 56) (tgt := 57) hx hb dX5_tell_1 (by rw [w_4]; decide) (by rw [w_4]; decide) (by rw [w_4]; rfl) (by decide) ?_
    refine lv_aload_n hx hb dX5_tell_57 rfl (lv_at hl 0 rfl) ?_
    refine k_get (ci := 5) (C := RX5) (T := TX5) (N := 13) hx hb hown hG rfl kin_X5 hI 2 (by decide) wF_X5_28 rfl dX5_tell_58 ?_
    exact ke_i hx hb hr hlk dX5_tell_61 (by first | rfl | (try delta pTellT; simp only [if_neg w_3, if_pos w_4, bI_true, bI_false]))
  by_cases w_5 : w = 5
  · refine lv_tableIn (off := 61) (tgt := 62) hx hb dX5_tell_1 (by rw [w_5]; decide) (by rw [w_5]; decide) (by rw [w_5]; rfl) (by decide) ?_
    refine lv_aload_n hx hb dX5_tell_62 rfl (lv_at hl 0 rfl) ?_
    refine k_get (ci := 5) (C := RX5) (T := TX5) (N := 13) hx hb hown hG rfl kin_X5 hI 5 (by decide) wF_X5_31 rfl dX5_tell_63 ?_
    exact ke_i hx hb hr hlk dX5_tell_66 (by first | rfl | (try delta pTellT; simp only [if_neg w_3, if_neg w_4, if_pos w_5, bI_true, bI_false]))
  by_cases w_6 : w = 6
  · refine lv_tableIn (off := 66) (tgt := 67) hx hb dX5_tell_1 (by rw [w_6]; decide) (by rw [w_6]; decide) (by rw [w_6]; rfl) (by decide) ?_
    refine lv_aload_n hx hb dX5_tell_67 rfl (lv_at hl 0 rfl) ?_
    refine k_get (ci := 5) (C := RX5) (T := TX5) (N := 13) hx hb hown hG rfl kin_X5 hI 6 (by decide) wF_X5_34 rfl dX5_tell_68 ?_
    exact ke_i hx hb hr hlk dX5_tell_71 (by first | rfl | (try delta pTellT; simp only [if_neg w_3, if_neg w_4, if_neg w_5, if_pos w_6, bI_true, bI_false]))
  by_cases w_7 : w = 7
  · refine lv_tableIn (off := 71) (tgt := 72) hx hb dX5_tell_1 (by rw [w_7]; decide) (by rw [w_7]; decide) (by rw [w_7]; rfl) (by decide) ?_
    refine lv_aload_n hx hb dX5_tell_72 rfl (lv_at hl 0 rfl) ?_
    refine k_get (ci := 5) (C := RX5) (T := TX5) (N := 13) hx hb hown hG rfl kin_X5 hI 7 (by decide) wF_X5_61 rfl dX5_tell_73 ?_
    exact ke_i hx hb hr hlk dX5_tell_76 (by first | rfl | (try delta pTellT; simp only [if_neg w_3, if_neg w_4, if_neg w_5, if_neg w_6, if_pos w_7, bI_true, bI_false]))
  by_cases w_8 : w = 8
  · refine lv_tableIn (off := 76) (tgt := 77) hx hb dX5_tell_1 (by rw [w_8]; decide) (by rw [w_8]; decide) (by rw [w_8]; rfl) (by decide) ?_
    refine lv_aload_n hx hb dX5_tell_77 rfl (lv_at hl 0 rfl) ?_
    refine k_get (ci := 5) (C := RX5) (T := TX5) (N := 13) hx hb hown hG rfl kin_X5 hI 8 (by decide) wF_X5_66 rfl dX5_tell_78 ?_
    exact ke_i hx hb hr hlk dX5_tell_81 (by first | rfl | (try delta pTellT; simp only [if_neg w_3, if_neg w_4, if_neg w_5, if_neg w_6, if_neg w_7, if_pos w_8, bI_true, bI_false]))
  by_cases w_9 : w = 9
  · refine lv_tableIn (off := 81) (tgt := 82) hx hb dX5_tell_1 (by rw [w_9]; decide) (by rw [w_9]; decide) (by rw [w_9]; rfl) (by decide) ?_
    refine lv_aload_n hx hb dX5_tell_82 rfl (lv_at hl 0 rfl) ?_
    refine k_get (ci := 5) (C := RX5) (T := TX5) (N := 13) hx hb hown hG rfl kin_X5 hI 9 (by decide) wF_X5_15 rfl dX5_tell_83 ?_
    exact ke_i hx hb hr hlk dX5_tell_86 (by first | rfl | (try delta pTellT; simp only [if_neg w_3, if_neg w_4, if_neg w_5, if_neg w_6, if_neg w_7, if_neg w_8, if_pos w_9, bI_true, bI_false]))
  by_cases w_10 : w = 10
  · refine lv_tableIn (off := 86) (tgt := 87) hx hb dX5_tell_1 (by rw [w_10]; decide) (by rw [w_10]; decide) (by rw [w_10]; rfl) (by decide) ?_
    refine lv_aload_n hx hb dX5_tell_87 rfl (lv_at hl 0 rfl) ?_
    refine k_get (ci := 5) (C := RX5) (T := TX5) (N := 13) hx hb hown hG rfl kin_X5 hI 10 (by decide) wF_X5_45 rfl dX5_tell_88 ?_
    exact ke_i hx hb hr hlk dX5_tell_91 (by first | rfl | (try delta pTellT; simp only [if_neg w_3, if_neg w_4, if_neg w_5, if_neg w_6, if_neg w_7, if_neg w_8, if_neg w_9, if_pos w_10, bI_true, bI_false]))
  by_cases w_11 : w = 11
  · refine lv_tableIn (off := 91) (tgt := 92) hx hb dX5_tell_1 (by rw [w_11]; decide) (by rw [w_11]; decide) (by rw [w_11]; rfl) (by decide) ?_
    refine lv_aload_n hx hb dX5_tell_92 rfl (lv_at hl 0 rfl) ?_
    refine k_get (ci := 5) (C := RX5) (T := TX5) (N := 13) hx hb hown hG rfl kin_X5 hI 11 (by decide) wF_X5_78 rfl dX5_tell_93 ?_
    exact ke_i hx hb hr hlk dX5_tell_96 (by first | rfl | (try delta pTellT; simp only [if_neg w_3, if_neg w_4, if_neg w_5, if_neg w_6, if_neg w_7, if_neg w_8, if_neg w_9, if_neg w_10, if_pos w_11, bI_true, bI_false]))
  have t_3 : ¬ w.toInt = 3 := lv_neT w_3 (by decide)
  have t_4 : ¬ w.toInt = 4 := lv_neT w_4 (by decide)
  have t_5 : ¬ w.toInt = 5 := lv_neT w_5 (by decide)
  have t_6 : ¬ w.toInt = 6 := lv_neT w_6 (by decide)
  have t_7 : ¬ w.toInt = 7 := lv_neT w_7 (by decide)
  have t_8 : ¬ w.toInt = 8 := lv_neT w_8 (by decide)
  have t_9 : ¬ w.toInt = 9 := lv_neT w_9 (by decide)
  have t_10 : ¬ w.toInt = 10 := lv_neT w_10 (by decide)
  have t_11 : ¬ w.toInt = 11 := lv_neT w_11 (by decide)
  refine lv_tableOut (tgt := 97) hx hb dX5_tell_1 (by omega) (by decide) ?_
  refine lv_aload_n hx hb dX5_tell_97 rfl (lv_at hl 0 rfl) ?_
  refine k_get (ci := 5) (C := RX5) (T := TX5) (N := 13) hx hb hown hG rfl kin_X5 hI 12 (by decide) wF_X5_18 rfl dX5_tell_98 ?_
  exact ke_i hx hb hr hlk dX5_tell_101 (by first | rfl | (try delta pTellT; simp only [if_neg w_3, if_neg w_4, if_neg w_5, if_neg w_6, if_neg w_7, if_neg w_8, if_neg w_9, if_neg w_10, if_neg w_11, bI_true, bI_false]))
