set_option maxHeartbeats 4000000 in
set_option maxRecDepth 100000 in
theorem c_X1_forget (l : Launch) (D : va_G) (cy : Nat → ClassId) (a : Nat) (g : Nat → Int32) : Met l yX1_forget [.code yX1_forget cX1_forget 1 none] ({ frames := 0, cells := 0, slots := 0, locals := 0 } : Room) (PC D cy [.ref a] (fun H => va_P D vwCl [(a, .inr (1, stF g))] H)) (UQv (fun q => q = a) (fun H => va_P D vwCl [(a, .inr (1, stF (gForget g)))] H)) 0 0 (fun q => q = a) := by
  refine k_body (by decide +kernel) (Nat.le_of_ble_eq_true rfl) ?_
  intro p e s m below meth c ls hx hb hml hown hr hlk hmn hl hG hI
  have hml9 : c.maxLocals = 1 := hml.trans hl.1
  have hl : lv_has ls 1 [(0, .ref a)] := hl
  have hS : va_S (fun q => q = a) s.heap s.heap [] := va_S.rf
  refine lv_aload_n hx hb dX1_forget_0 rfl (lv_at hl 0 rfl) ?_
  refine lv_iconst (v := 0) hx hb dX1_forget_1 (by decide) ?_
  refine k_put (ci := 1) (C := RX1) (T := TX1) (N := 11) (v := .int 0) hx hb hown hG rfl kin_X1 tyX1 tyX1_ok nmX1 hI hS rfl 2 (by decide) wF_X1_50 rfl (by first | exact bI_nar _ | decide) (by first | exact bI_fit _ | decide) (Nat.le_of_ble_eq_true rfl) dX1_forget_2 (fun H1 locs hP1 z1 oq1 hS => ?_)
  have hP : va_P D vwCl [(a, .inr (1, stF (upd g 2 0)))] H1 := hP1
  refine lv_aload_n hx hb dX1_forget_5 rfl (lv_at hl 0 rfl) ?_
  refine lv_iconst (v := 0) hx hb dX1_forget_6 (by decide) ?_
  refine k_put (ci := 1) (C := RX1) (T := TX1) (N := 11) (v := .int 0) hx hb hown hG rfl kin_X1 tyX1 tyX1_ok nmX1 hP hS rfl 9 (by decide) wF_X1_53 rfl rfl rfl (Nat.le_of_ble_eq_true rfl) dX1_forget_7 (fun H1 locs hP1 z1 oq1 hS => ?_)
  have hP : va_P D vwCl [(a, .inr (1, stF (upd (upd g 2 0) 9 0)))] H1 := hP1
  refine lv_aload_n hx hb dX1_forget_10 rfl (lv_at hl 0 rfl) ?_
  refine lv_iconst (v := 0) hx hb dX1_forget_11 (by decide) ?_
  refine k_put (ci := 1) (C := RX1) (T := TX1) (N := 11) (v := .int 0) hx hb hown hG rfl kin_X1 tyX1 tyX1_ok nmX1 hP hS rfl 10 (by decide) wF_X1_56 rfl rfl rfl (Nat.le_of_ble_eq_true rfl) dX1_forget_12 (fun H1 locs hP1 z1 oq1 hS => ?_)
  have hP : va_P D vwCl [(a, .inr (1, stF (upd (upd (upd g 2 0) 9 0) 10 0)))] H1 := hP1
  exact ke_uv hx hb hr hlk hS dX1_forget_15 (by have e9 : gForget g = (upd (upd (upd g 2 0) 9 0) 10 0) := (by first | rfl | (try delta gForget; simp only [bI_true, bI_false])); rw [e9]; exact hP)
set_option maxHeartbeats 4000000 in
set_option maxRecDepth 100000 in
theorem c_X1_lose (l : Launch) (D : va_G) (cy : Nat → ClassId) (a : Nat) (g : Nat → Int32) : Met l yX1_lose [.code yX1_lose cX1_lose 1 none] ({ frames := 1, cells := 0, slots := 0, locals := 20 } : Room) (PC D cy [.ref a] (fun H => va_P D vwCl [(a, .inr (1, stF g))] H)) (UQv (fun q => q = a) (fun H => va_P D vwCl [(a, .inr (1, stF (gLose g)))] H)) 0 0 (fun q => q = a) := by
  refine k_body (by decide +kernel) (Nat.le_of_ble_eq_true rfl) ?_
  intro p e s m below meth c ls hx hb hml hown hr hlk hmn hl hG hI
  have hml9 : c.maxLocals = 1 := hml.trans hl.1
  have hl : lv_has ls 1 [(0, .ref a)] := hl
  have hS : va_S (fun q => q = a) s.heap s.heap [] := va_S.rf
  refine lv_aload_n hx hb dX1_lose_0 rfl (lv_at hl 0 rfl) ?_
  refine kc_uv (kr_V (As := []) (rest := []) hx hb hml hown hG (c_X1_forget l D cy a g ) cf_X1_forget wM_X1_15 hI rfl hI ⟨rfl, rfl, by decide, by decide⟩ rfl rfl (Nat.le_of_ble_eq_true rfl) ⟨Nat.le_of_ble_eq_true rfl, Nat.le_of_ble_eq_true rfl⟩ dX1_lose_1) hS (fun _ h => h) (fun H1 locs hp1 z1 oq1 hS => ?_)
  have hP : va_P D vwCl [(a, .inr (1, stF (gForget g)))] H1 := hp1
  refine lv_aload_n hx hb dX1_lose_4 rfl (lv_at hl 0 rfl) ?_
  refine lv_iconst (v := 0) hx hb dX1_lose_5 (by decide) ?_
  refine k_put (ci := 1) (C := RX1) (T := TX1) (N := 11) (v := .int 0) hx hb hown hG rfl kin_X1 tyX1 tyX1_ok nmX1 hP hS rfl 0 (by decide) wF_X1_9 rfl (by first | exact bI_nar _ | decide) (by first | exact bI_fit _ | decide) (Nat.le_of_ble_eq_true rfl) dX1_lose_6 (fun H1 locs hP1 z1 oq1 hS => ?_)
  have hP : va_P D vwCl [(a, .inr (1, stF (upd (gForget g) 0 0)))] H1 := hP1
  refine lv_aload_n hx hb dX1_lose_9 rfl (lv_at hl 0 rfl) ?_
  refine lv_iconst (v := 0) hx hb dX1_lose_10 (by decide) ?_
  refine k_put (ci := 1) (C := RX1) (T := TX1) (N := 11) (v := .int 0) hx hb hown hG rfl kin_X1 tyX1 tyX1_ok nmX1 hP hS rfl 1 (by decide) wF_X1_47 rfl (by first | exact bI_nar _ | decide) (by first | exact bI_fit _ | decide) (Nat.le_of_ble_eq_true rfl) dX1_lose_11 (fun H1 locs hP1 z1 oq1 hS => ?_)
  have hP : va_P D vwCl [(a, .inr (1, stF (upd (upd (gForget g) 0 0) 1 0)))] H1 := hP1
  exact ke_uv hx hb hr hlk hS dX1_lose_14 (by have e9 : gLose g = (upd (upd (gForget g) 0 0) 1 0) := (by first | rfl | (try delta gLose; simp only [bI_true, bI_false])); rw [e9]; exact hP)
set_option maxHeartbeats 4000000 in
set_option maxRecDepth 100000 in
theorem c_X1_take (l : Launch) (D : va_G) (cy : Nat → ClassId) (a : Nat) (g : Nat → Int32) (code wave n : Int32) : Met l yX1_take [.code yX1_take cX1_take 5 none] ({ frames := 1, cells := 0, slots := 0, locals := 22 } : Room) (PC D cy [.ref a, .int code, .int wave, .int n] (fun H => va_P D vwCl [(a, .inr (1, stF g))] H)) (UQv (fun q => q = a) (fun H => va_P D vwCl [(a, .inr (1, stF (gTake g code wave n)))] H)) 0 0 (fun q => q = a) := by
  refine k_body (by decide +kernel) (Nat.le_of_ble_eq_true rfl) ?_
  intro p e s m below meth c ls hx hb hml hown hr hlk hmn hl hG hI
  have hml9 : c.maxLocals = 5 := hml.trans hl.1
  have hl : lv_has ls 5 [(0, .ref a), (1, .int code), (2, .int wave), (3, .int n)] := hl
  have hS : va_S (fun q => q = a) s.heap s.heap [] := va_S.rf
  have jn16_1 : ∀ (go : Bool), gGo n g = go → ∀ ls : Array Slot, lv_has ls 5 [(0, .ref a), (1, .int code), (2, .int wave), (3, .int n)] → W p l e ({ frames := 1, cells := 0, slots := 0, locals := 22 } : Room) s m ([.ref a, .int code, .int wave, .int n] : List Value).toArray below meth c s.heap [] 0 0 (MQ below (UQv (fun q => q = a) (fun H => va_P D vwCl [(a, .inr (1, stF (gTake g code wave n)))] H)) ([.ref a, .int code, .int wave, .int n] : List Value).toArray s 0 0 (fun q => q = a)) (F0 m 16 ls [.int (bI go)]) := by
    intro go ego ls hl
    refine lv_istore (lv' := [(4, .int (bI go)), (0, .ref a), (1, .int code), (2, .int wave), (3, .int n)]) hx hb dX1_take_16 hl (by decide) rfl (fun ls hl => ?_)
    have hml : c.maxLocals = ls.size := hml9.trans hl.1.symm
    refine lv_aload_n hx hb dX1_take_18 rfl (lv_at hl 1 rfl) ?_
    refine kc_uv (kr_V (As := []) (rest := []) hx hb hml hown hG (c_X1_forget l D cy a g ) cf_X1_forget wM_X1_15 hI rfl hI ⟨rfl, rfl, by decide, by decide⟩ rfl rfl (Nat.le_of_ble_eq_true rfl) ⟨Nat.le_of_ble_eq_true rfl, Nat.le_of_ble_eq_true rfl⟩ dX1_take_19) hS (fun _ h => h) (fun H1 locs hp1 z1 oq1 hS => ?_)
    have hP : va_P D vwCl [(a, .inr (1, stF (gForget g)))] H1 := hp1
    refine lv_aload_n hx hb dX1_take_22 rfl (lv_at hl 1 rfl) ?_
    refine lv_iconst (v := 1) hx hb dX1_take_23 (by decide) ?_
    refine k_put (ci := 1) (C := RX1) (T := TX1) (N := 11) (v := .int 1) hx hb hown hG rfl kin_X1 tyX1 tyX1_ok nmX1 hP hS rfl 0 (by decide) wF_X1_9 rfl (by first | exact bI_nar _ | decide) (by first | exact bI_fit _ | decide) (Nat.le_of_ble_eq_true rfl) dX1_take_24 (fun H1 locs hP1 z1 oq1 hS => ?_)
    have hP : va_P D vwCl [(a, .inr (1, stF (upd (gForget g) 0 1)))] H1 := hP1
    refine lv_aload_n hx hb dX1_take_27 rfl (lv_at hl 1 rfl) ?_
    refine lv_iload_n hx hb dX1_take_28 rfl (lv_at hl 2 rfl) ?_
    refine k_put (ci := 1) (C := RX1) (T := TX1) (N := 11) (v := .int code) hx hb hown hG rfl kin_X1 tyX1 tyX1_ok nmX1 hP hS rfl 3 (by decide) wF_X1_18 rfl rfl rfl (Nat.le_of_ble_eq_true rfl) dX1_take_29 (fun H1 locs hP1 z1 oq1 hS => ?_)
    have hP : va_P D vwCl [(a, .inr (1, stF (upd (upd (gForget g) 0 1) 3 code)))] H1 := hP1
    refine lv_aload_n hx hb dX1_take_32 rfl (lv_at hl 1 rfl) ?_
    refine lv_iload_n hx hb dX1_take_33 rfl (lv_at hl 3 rfl) ?_
    refine k_put (ci := 1) (C := RX1) (T := TX1) (N := 11) (v := .int wave) hx hb hown hG rfl kin_X1 tyX1 tyX1_ok nmX1 hP hS rfl 4 (by decide) wF_X1_22 rfl rfl rfl (Nat.le_of_ble_eq_true rfl) dX1_take_34 (fun H1 locs hP1 z1 oq1 hS => ?_)
    have hP : va_P D vwCl [(a, .inr (1, stF (upd (upd (upd (gForget g) 0 1) 3 code) 4 wave)))] H1 := hP1
    refine lv_aload_n hx hb dX1_take_37 rfl (lv_at hl 1 rfl) ?_
    refine lv_aload_n hx hb dX1_take_38 rfl (lv_at hl 1 rfl) ?_
    refine k_get (ci := 1) (C := RX1) (T := TX1) (N := 11) (v := .int code) hx hb hown hG rfl kin_X1 hP 3 (by decide) wF_X1_18 rfl dX1_take_39 ?_
    refine lv_aload_n hx hb dX1_take_42 rfl (lv_at hl 1 rfl) ?_
    refine k_get (ci := 1) (C := RX1) (T := TX1) (N := 11) (v := .int wave) hx hb hown hG rfl kin_X1 hP 4 (by decide) wF_X1_22 rfl dX1_take_43 ?_
    refine lv_isub hx hb dX1_take_46 ?_
    refine lv_iconst (v := 5) hx hb dX1_take_47 (by decide) ?_
    refine lv_iadd hx hb dX1_take_48 ?_
    refine lv_bipush (v := 10) hx hb dX1_take_49 (by decide) ?_
    refine kc_i (kr_S (As := [.int ((code - wave) + 5), .int 10]) (rest := [.ref a]) hx hb hml hown hG (c_J9_floorDiv_7cf53 l D cy ((code - wave) + 5) 10 (by decide)) cf_J9_floorDiv_7cf53 wM_X1_25 trivial ⟨rfl, rfl, by decide, by decide⟩ rfl rfl (Nat.le_of_ble_eq_true rfl) ⟨Nat.le_of_ble_eq_true rfl, Nat.le_of_ble_eq_true rfl⟩ dX1_take_51) ?_
    refine k_put (ci := 1) (C := RX1) (T := TX1) (N := 11) (v := .int (pFDiv ((code - wave) + 5) 10)) hx hb hown hG rfl kin_X1 tyX1 tyX1_ok nmX1 hP hS rfl 5 (by decide) wF_X1_31 rfl rfl rfl (Nat.le_of_ble_eq_true rfl) dX1_take_54 (fun H1 locs hP1 z1 oq1 hS => ?_)
    have hP : va_P D vwCl [(a, .inr (1, stF (upd (upd (upd (upd (gForget g) 0 1) 3 code) 4 wave) 5 (pFDiv ((code - wave) + 5) 10))))] H1 := hP1
    refine lv_aload_n hx hb dX1_take_57 rfl (lv_at hl 1 rfl) ?_
    refine lv_aload_n hx hb dX1_take_58 rfl (lv_at hl 1 rfl) ?_
    refine k_get (ci := 1) (C := RX1) (T := TX1) (N := 11) (v := .int code) hx hb hown hG rfl kin_X1 hP 3 (by decide) wF_X1_18 rfl dX1_take_59 ?_
    refine lv_aload_n hx hb dX1_take_62 rfl (lv_at hl 1 rfl) ?_
    refine k_get (ci := 1) (C := RX1) (T := TX1) (N := 11) (v := .int wave) hx hb hown hG rfl kin_X1 hP 4 (by decide) wF_X1_22 rfl dX1_take_63 ?_
    refine lv_isub hx hb dX1_take_66 ?_
    refine lv_bipush (v := 10) hx hb dX1_take_67 (by decide) ?_
    refine lv_aload_n hx hb dX1_take_69 rfl (lv_at hl 1 rfl) ?_
    refine k_get (ci := 1) (C := RX1) (T := TX1) (N := 11) (v := .int (pFDiv ((code - wave) + 5) 10)) hx hb hown hG rfl kin_X1 hP 5 (by decide) wF_X1_31 rfl dX1_take_70 ?_
    refine lv_imul hx hb dX1_take_73 ?_
    refine lv_isub hx hb dX1_take_74 ?_
    refine k_put (ci := 1) (C := RX1) (T := TX1) (N := 11) (v := .int ((code - wave) - (10 * (pFDiv ((code - wave) + 5) 10)))) hx hb hown hG rfl kin_X1 tyX1 tyX1_ok nmX1 hP hS rfl 6 (by decide) wF_X1_34 rfl rfl rfl (Nat.le_of_ble_eq_true rfl) dX1_take_75 (fun H1 locs hP1 z1 oq1 hS => ?_)
    have hP : va_P D vwCl [(a, .inr (1, stF (upd (upd (upd (upd (upd (gForget g) 0 1) 3 code) 4 wave) 5 (pFDiv ((code - wave) + 5) 10)) 6 ((code - wave) - (10 * (pFDiv ((code - wave) + 5) 10))))))] H1 := hP1
    refine lv_aload_n hx hb dX1_take_78 rfl (lv_at hl 1 rfl) ?_
    refine lv_iload hx hb dX1_take_79 (lv_at hl 0 rfl) ?_
    refine lv_if_eq (tgt := 93) hx hb dX1_take_81 (by decide) (fun c_81 => ?_) (fun c_81 => ?_)
    · refine lv_iconst (v := 1) hx hb dX1_take_93 (by decide) ?_
      refine k_put (ci := 1) (C := RX1) (T := TX1) (N := 11) (v := .int 1) hx hb hown hG rfl kin_X1 tyX1 tyX1_ok nmX1 hP hS rfl 7 (by decide) wF_X1_37 rfl rfl rfl (Nat.le_of_ble_eq_true rfl) dX1_take_94 (fun H1 locs hP1 z1 oq1 hS => ?_)
      have hP : va_P D vwCl [(a, .inr (1, stF (upd (upd (upd (upd (upd (upd (gForget g) 0 1) 3 code) 4 wave) 5 (pFDiv ((code - wave) + 5) 10)) 6 ((code - wave) - (10 * (pFDiv ((code - wave) + 5) 10)))) 7 1)))] H1 := hP1
      refine lv_aload_n hx hb dX1_take_97 rfl (lv_at hl 1 rfl) ?_
      refine lv_aload_n hx hb dX1_take_98 rfl (lv_at hl 1 rfl) ?_
      refine k_get (ci := 1) (C := RX1) (T := TX1) (N := 11) (v := .int ((code - wave) - (10 * (pFDiv ((code - wave) + 5) 10)))) hx hb hown hG rfl kin_X1 hP 6 (by decide) wF_X1_34 rfl dX1_take_99 ?_
      refine lv_bipush (v := (-2)) hx hb dX1_take_102 (by decide) ?_
      refine lv_iconst (v := 2) hx hb dX1_take_104 (by decide) ?_
      refine kc_i (kr_SN (As := [.int ((code - wave) - (10 * (pFDiv ((code - wave) + 5) 10))), .int (-2), .int 2]) (rest := [.ref a]) hx hb hml hown hG (c_X6_isOutside l D cy ((code - wave) - (10 * (pFDiv ((code - wave) + 5) 10))) (-2) 2) cf_X6_isOutside wMN_X1_40 trivial ⟨rfl, rfl, by decide, by decide⟩ rfl rfl (Nat.le_of_ble_eq_true rfl) ⟨Nat.le_of_ble_eq_true rfl, Nat.le_of_ble_eq_true rfl⟩ dX1_take_105) ?_
      refine lv_if_eq (tgt := 115) hx hb dX1_take_108 (by decide) (fun c_108 => ?_) (fun c_108 => ?_)
      · refine lv_iload hx hb dX1_take_115 (lv_at hl 0 rfl) ?_
        refine lv_if_eq (tgt := 129) hx hb dX1_take_117 (by decide) (fun _ => ?_) (fun q9 => absurd c_81 q9)
        refine lv_iconst (v := 1) hx hb dX1_take_129 (by decide) ?_
        refine k_put (ci := 1) (C := RX1) (T := TX1) (N := 11) (v := .int 1) hx hb hown hG rfl kin_X1 tyX1 tyX1_ok nmX1 hP hS rfl 8 (by decide) wF_X1_44 rfl rfl rfl (Nat.le_of_ble_eq_true rfl) dX1_take_130 (fun H1 locs hP1 z1 oq1 hS => ?_)
        have hP : va_P D vwCl [(a, .inr (1, stF (upd (upd (upd (upd (upd (upd (upd (gForget g) 0 1) 3 code) 4 wave) 5 (pFDiv ((code - wave) + 5) 10)) 6 ((code - wave) - (10 * (pFDiv ((code - wave) + 5) 10)))) 7 1) 8 1)))] H1 := hP1
        refine lv_aload_n hx hb dX1_take_133 rfl (lv_at hl 1 rfl) ?_
        refine lv_aload_n hx hb dX1_take_134 rfl (lv_at hl 1 rfl) ?_
        refine k_get (ci := 1) (C := RX1) (T := TX1) (N := 11) (v := .int 1) hx hb hown hG rfl kin_X1 hP 7 (by decide) wF_X1_37 rfl dX1_take_135 ?_
        refine lv_iconst (v := 3) hx hb dX1_take_138 (by decide) ?_
        refine lv_icmp_lt (tgt := 154) hx hb dX1_take_139 (by decide) (fun _ => ?_) (fun q9 => absurd (by decide) q9)
        refine lv_iconst (v := 0) hx hb dX1_take_154 (by decide) ?_
        refine k_put (ci := 1) (C := RX1) (T := TX1) (N := 11) (v := .int 0) hx hb hown hG rfl kin_X1 tyX1 tyX1_ok nmX1 hP hS rfl 1 (by decide) wF_X1_47 rfl (by first | exact bI_nar _ | decide) (by first | exact bI_fit _ | decide) (Nat.le_of_ble_eq_true rfl) dX1_take_155 (fun H1 locs hP1 z1 oq1 hS => ?_)
        have hP : va_P D vwCl [(a, .inr (1, stF (upd (upd (upd (upd (upd (upd (upd (upd (gForget g) 0 1) 3 code) 4 wave) 5 (pFDiv ((code - wave) + 5) 10)) 6 ((code - wave) - (10 * (pFDiv ((code - wave) + 5) 10)))) 7 1) 8 1) 1 0)))] H1 := hP1
        exact ke_uv hx hb hr hlk hS dX1_take_158 (by have e9 : gTake g code wave n = (upd (upd (upd (upd (upd (upd (upd (upd (gForget g) 0 1) 3 code) 4 wave) 5 (pFDiv ((code - wave) + 5) 10)) 6 ((code - wave) - (10 * (pFDiv ((code - wave) + 5) 10)))) 7 1) 8 1) 1 0) := (by unfold gTake gFix gStdy gKept; rw [ego]; unfold gLeft gCnt; try simp only [↓reduceIte, if_pos (show (1 : Int32) < 3 from by decide), if_pos (show (0 : Int32) < 3 from by decide), if_pos c_81, if_pos c_108]; try rfl); rw [e9]; exact hP)
      · refine lv_iconst (v := 0) hx hb dX1_take_111 (by decide) ?_
        refine lv_goto (tgt := 130) hx hb dX1_take_112 (by decide) ?_
        refine k_put (ci := 1) (C := RX1) (T := TX1) (N := 11) (v := .int 0) hx hb hown hG rfl kin_X1 tyX1 tyX1_ok nmX1 hP hS rfl 8 (by decide) wF_X1_44 rfl rfl rfl (Nat.le_of_ble_eq_true rfl) dX1_take_130 (fun H1 locs hP1 z1 oq1 hS => ?_)
        have hP : va_P D vwCl [(a, .inr (1, stF (upd (upd (upd (upd (upd (upd (upd (gForget g) 0 1) 3 code) 4 wave) 5 (pFDiv ((code - wave) + 5) 10)) 6 ((code - wave) - (10 * (pFDiv ((code - wave) + 5) 10)))) 7 1) 8 0)))] H1 := hP1
        refine lv_aload_n hx hb dX1_take_133 rfl (lv_at hl 1 rfl) ?_
        refine lv_aload_n hx hb dX1_take_134 rfl (lv_at hl 1 rfl) ?_
        refine k_get (ci := 1) (C := RX1) (T := TX1) (N := 11) (v := .int 1) hx hb hown hG rfl kin_X1 hP 7 (by decide) wF_X1_37 rfl dX1_take_135 ?_
        refine lv_iconst (v := 3) hx hb dX1_take_138 (by decide) ?_
        refine lv_icmp_lt (tgt := 154) hx hb dX1_take_139 (by decide) (fun _ => ?_) (fun q9 => absurd (by decide) q9)
        refine lv_iconst (v := 0) hx hb dX1_take_154 (by decide) ?_
        refine k_put (ci := 1) (C := RX1) (T := TX1) (N := 11) (v := .int 0) hx hb hown hG rfl kin_X1 tyX1 tyX1_ok nmX1 hP hS rfl 1 (by decide) wF_X1_47 rfl (by first | exact bI_nar _ | decide) (by first | exact bI_fit _ | decide) (Nat.le_of_ble_eq_true rfl) dX1_take_155 (fun H1 locs hP1 z1 oq1 hS => ?_)
        have hP : va_P D vwCl [(a, .inr (1, stF (upd (upd (upd (upd (upd (upd (upd (upd (gForget g) 0 1) 3 code) 4 wave) 5 (pFDiv ((code - wave) + 5) 10)) 6 ((code - wave) - (10 * (pFDiv ((code - wave) + 5) 10)))) 7 1) 8 0) 1 0)))] H1 := hP1
        exact ke_uv hx hb hr hlk hS dX1_take_158 (by have e9 : gTake g code wave n = (upd (upd (upd (upd (upd (upd (upd (upd (gForget g) 0 1) 3 code) 4 wave) 5 (pFDiv ((code - wave) + 5) 10)) 6 ((code - wave) - (10 * (pFDiv ((code - wave) + 5) 10)))) 7 1) 8 0) 1 0) := (by unfold gTake gFix gStdy gKept; rw [ego]; unfold gLeft gCnt; try simp only [↓reduceIte, if_pos (show (1 : Int32) < 3 from by decide), if_pos (show (0 : Int32) < 3 from by decide), if_pos c_81, if_neg c_108]; try rfl); rw [e9]; exact hP)
    · refine lv_aload_n hx hb dX1_take_84 rfl (lv_at hl 1 rfl) ?_
      refine k_get (ci := 1) (C := RX1) (T := TX1) (N := 11) (v := .int (g 7)) hx hb hown hG rfl kin_X1 hP 7 (by decide) wF_X1_37 rfl dX1_take_85 ?_
      refine lv_iconst (v := 1) hx hb dX1_take_88 (by decide) ?_
      refine lv_iadd hx hb dX1_take_89 ?_
      refine lv_goto (tgt := 94) hx hb dX1_take_90 (by decide) ?_
      refine k_put (ci := 1) (C := RX1) (T := TX1) (N := 11) (v := .int (g 7 + 1)) hx hb hown hG rfl kin_X1 tyX1 tyX1_ok nmX1 hP hS rfl 7 (by decide) wF_X1_37 rfl rfl rfl (Nat.le_of_ble_eq_true rfl) dX1_take_94 (fun H1 locs hP1 z1 oq1 hS => ?_)
      have hP : va_P D vwCl [(a, .inr (1, stF (upd (upd (upd (upd (upd (upd (gForget g) 0 1) 3 code) 4 wave) 5 (pFDiv ((code - wave) + 5) 10)) 6 ((code - wave) - (10 * (pFDiv ((code - wave) + 5) 10)))) 7 (g 7 + 1))))] H1 := hP1
      refine lv_aload_n hx hb dX1_take_97 rfl (lv_at hl 1 rfl) ?_
      refine lv_aload_n hx hb dX1_take_98 rfl (lv_at hl 1 rfl) ?_
      refine k_get (ci := 1) (C := RX1) (T := TX1) (N := 11) (v := .int ((code - wave) - (10 * (pFDiv ((code - wave) + 5) 10)))) hx hb hown hG rfl kin_X1 hP 6 (by decide) wF_X1_34 rfl dX1_take_99 ?_
      refine lv_bipush (v := (-2)) hx hb dX1_take_102 (by decide) ?_
      refine lv_iconst (v := 2) hx hb dX1_take_104 (by decide) ?_
      refine kc_i (kr_SN (As := [.int ((code - wave) - (10 * (pFDiv ((code - wave) + 5) 10))), .int (-2), .int 2]) (rest := [.ref a]) hx hb hml hown hG (c_X6_isOutside l D cy ((code - wave) - (10 * (pFDiv ((code - wave) + 5) 10))) (-2) 2) cf_X6_isOutside wMN_X1_40 trivial ⟨rfl, rfl, by decide, by decide⟩ rfl rfl (Nat.le_of_ble_eq_true rfl) ⟨Nat.le_of_ble_eq_true rfl, Nat.le_of_ble_eq_true rfl⟩ dX1_take_105) ?_
      refine lv_if_eq (tgt := 115) hx hb dX1_take_108 (by decide) (fun c_108 => ?_) (fun c_108 => ?_)
      · refine lv_iload hx hb dX1_take_115 (lv_at hl 0 rfl) ?_
        refine lv_if_eq (tgt := 129) hx hb dX1_take_117 (by decide) (fun q9 => absurd q9 c_81) (fun _ => ?_)
        refine lv_aload_n hx hb dX1_take_120 rfl (lv_at hl 1 rfl) ?_
        refine k_get (ci := 1) (C := RX1) (T := TX1) (N := 11) (v := .int (g 8)) hx hb hown hG rfl kin_X1 hP 8 (by decide) wF_X1_44 rfl dX1_take_121 ?_
        refine lv_iconst (v := 1) hx hb dX1_take_124 (by decide) ?_
        refine lv_iadd hx hb dX1_take_125 ?_
        refine lv_goto (tgt := 130) hx hb dX1_take_126 (by decide) ?_
        refine k_put (ci := 1) (C := RX1) (T := TX1) (N := 11) (v := .int (g 8 + 1)) hx hb hown hG rfl kin_X1 tyX1 tyX1_ok nmX1 hP hS rfl 8 (by decide) wF_X1_44 rfl rfl rfl (Nat.le_of_ble_eq_true rfl) dX1_take_130 (fun H1 locs hP1 z1 oq1 hS => ?_)
        have hP : va_P D vwCl [(a, .inr (1, stF (upd (upd (upd (upd (upd (upd (upd (gForget g) 0 1) 3 code) 4 wave) 5 (pFDiv ((code - wave) + 5) 10)) 6 ((code - wave) - (10 * (pFDiv ((code - wave) + 5) 10)))) 7 (g 7 + 1)) 8 (g 8 + 1))))] H1 := hP1
        refine lv_aload_n hx hb dX1_take_133 rfl (lv_at hl 1 rfl) ?_
        refine lv_aload_n hx hb dX1_take_134 rfl (lv_at hl 1 rfl) ?_
        refine k_get (ci := 1) (C := RX1) (T := TX1) (N := 11) (v := .int (g 7 + 1)) hx hb hown hG rfl kin_X1 hP 7 (by decide) wF_X1_37 rfl dX1_take_135 ?_
        refine lv_iconst (v := 3) hx hb dX1_take_138 (by decide) ?_
        refine lv_icmp_lt (tgt := 154) hx hb dX1_take_139 (by decide) (fun c_139 => ?_) (fun c_139 => ?_)
        · refine lv_iconst (v := 0) hx hb dX1_take_154 (by decide) ?_
          refine k_put (ci := 1) (C := RX1) (T := TX1) (N := 11) (v := .int 0) hx hb hown hG rfl kin_X1 tyX1 tyX1_ok nmX1 hP hS rfl 1 (by decide) wF_X1_47 rfl (by first | exact bI_nar _ | decide) (by first | exact bI_fit _ | decide) (Nat.le_of_ble_eq_true rfl) dX1_take_155 (fun H1 locs hP1 z1 oq1 hS => ?_)
          have hP : va_P D vwCl [(a, .inr (1, stF (upd (upd (upd (upd (upd (upd (upd (upd (gForget g) 0 1) 3 code) 4 wave) 5 (pFDiv ((code - wave) + 5) 10)) 6 ((code - wave) - (10 * (pFDiv ((code - wave) + 5) 10)))) 7 (g 7 + 1)) 8 (g 8 + 1)) 1 0)))] H1 := hP1
          exact ke_uv hx hb hr hlk hS dX1_take_158 (by have e9 : gTake g code wave n = (upd (upd (upd (upd (upd (upd (upd (upd (gForget g) 0 1) 3 code) 4 wave) 5 (pFDiv ((code - wave) + 5) 10)) 6 ((code - wave) - (10 * (pFDiv ((code - wave) + 5) 10)))) 7 (g 7 + 1)) 8 (g 8 + 1)) 1 0) := (by unfold gTake gFix gStdy gKept; rw [ego]; unfold gLeft gCnt; try simp only [↓reduceIte, if_pos (show (1 : Int32) < 3 from by decide), if_pos (show (0 : Int32) < 3 from by decide), if_neg c_81, if_pos c_108, if_pos c_139]; try rfl); rw [e9]; exact hP)
        · refine lv_aload_n hx hb dX1_take_142 rfl (lv_at hl 1 rfl) ?_
          refine k_get (ci := 1) (C := RX1) (T := TX1) (N := 11) (v := .int (g 8 + 1)) hx hb hown hG rfl kin_X1 hP 8 (by decide) wF_X1_44 rfl dX1_take_143 ?_
          refine lv_iconst (v := 3) hx hb dX1_take_146 (by decide) ?_
          refine lv_icmp_lt (tgt := 154) hx hb dX1_take_147 (by decide) (fun c_147 => ?_) (fun c_147 => ?_)
          · refine lv_iconst (v := 0) hx hb dX1_take_154 (by decide) ?_
            refine k_put (ci := 1) (C := RX1) (T := TX1) (N := 11) (v := .int 0) hx hb hown hG rfl kin_X1 tyX1 tyX1_ok nmX1 hP hS rfl 1 (by decide) wF_X1_47 rfl (by first | exact bI_nar _ | decide) (by first | exact bI_fit _ | decide) (Nat.le_of_ble_eq_true rfl) dX1_take_155 (fun H1 locs hP1 z1 oq1 hS => ?_)
            have hP : va_P D vwCl [(a, .inr (1, stF (upd (upd (upd (upd (upd (upd (upd (upd (gForget g) 0 1) 3 code) 4 wave) 5 (pFDiv ((code - wave) + 5) 10)) 6 ((code - wave) - (10 * (pFDiv ((code - wave) + 5) 10)))) 7 (g 7 + 1)) 8 (g 8 + 1)) 1 0)))] H1 := hP1
            exact ke_uv hx hb hr hlk hS dX1_take_158 (by have e9 : gTake g code wave n = (upd (upd (upd (upd (upd (upd (upd (upd (gForget g) 0 1) 3 code) 4 wave) 5 (pFDiv ((code - wave) + 5) 10)) 6 ((code - wave) - (10 * (pFDiv ((code - wave) + 5) 10)))) 7 (g 7 + 1)) 8 (g 8 + 1)) 1 0) := (by unfold gTake gFix gStdy gKept; rw [ego]; unfold gLeft gCnt; try simp only [↓reduceIte, if_pos (show (1 : Int32) < 3 from by decide), if_pos (show (0 : Int32) < 3 from by decide), if_neg c_81, if_pos c_108, if_neg c_139, if_pos c_147]; try rfl); rw [e9]; exact hP)
          · refine lv_iconst (v := 1) hx hb dX1_take_150 (by decide) ?_
            refine lv_goto (tgt := 155) hx hb dX1_take_151 (by decide) ?_
            refine k_put (ci := 1) (C := RX1) (T := TX1) (N := 11) (v := .int 1) hx hb hown hG rfl kin_X1 tyX1 tyX1_ok nmX1 hP hS rfl 1 (by decide) wF_X1_47 rfl (by first | exact bI_nar _ | decide) (by first | exact bI_fit _ | decide) (Nat.le_of_ble_eq_true rfl) dX1_take_155 (fun H1 locs hP1 z1 oq1 hS => ?_)
            have hP : va_P D vwCl [(a, .inr (1, stF (upd (upd (upd (upd (upd (upd (upd (upd (gForget g) 0 1) 3 code) 4 wave) 5 (pFDiv ((code - wave) + 5) 10)) 6 ((code - wave) - (10 * (pFDiv ((code - wave) + 5) 10)))) 7 (g 7 + 1)) 8 (g 8 + 1)) 1 1)))] H1 := hP1
            exact ke_uv hx hb hr hlk hS dX1_take_158 (by have e9 : gTake g code wave n = (upd (upd (upd (upd (upd (upd (upd (upd (gForget g) 0 1) 3 code) 4 wave) 5 (pFDiv ((code - wave) + 5) 10)) 6 ((code - wave) - (10 * (pFDiv ((code - wave) + 5) 10)))) 7 (g 7 + 1)) 8 (g 8 + 1)) 1 1) := (by unfold gTake gFix gStdy gKept; rw [ego]; unfold gLeft gCnt; try simp only [↓reduceIte, if_pos (show (1 : Int32) < 3 from by decide), if_pos (show (0 : Int32) < 3 from by decide), if_neg c_81, if_pos c_108, if_neg c_139, if_neg c_147]; try rfl); rw [e9]; exact hP)
      · refine lv_iconst (v := 0) hx hb dX1_take_111 (by decide) ?_
        refine lv_goto (tgt := 130) hx hb dX1_take_112 (by decide) ?_
        refine k_put (ci := 1) (C := RX1) (T := TX1) (N := 11) (v := .int 0) hx hb hown hG rfl kin_X1 tyX1 tyX1_ok nmX1 hP hS rfl 8 (by decide) wF_X1_44 rfl rfl rfl (Nat.le_of_ble_eq_true rfl) dX1_take_130 (fun H1 locs hP1 z1 oq1 hS => ?_)
        have hP : va_P D vwCl [(a, .inr (1, stF (upd (upd (upd (upd (upd (upd (upd (gForget g) 0 1) 3 code) 4 wave) 5 (pFDiv ((code - wave) + 5) 10)) 6 ((code - wave) - (10 * (pFDiv ((code - wave) + 5) 10)))) 7 (g 7 + 1)) 8 0)))] H1 := hP1
        refine lv_aload_n hx hb dX1_take_133 rfl (lv_at hl 1 rfl) ?_
        refine lv_aload_n hx hb dX1_take_134 rfl (lv_at hl 1 rfl) ?_
        refine k_get (ci := 1) (C := RX1) (T := TX1) (N := 11) (v := .int (g 7 + 1)) hx hb hown hG rfl kin_X1 hP 7 (by decide) wF_X1_37 rfl dX1_take_135 ?_
        refine lv_iconst (v := 3) hx hb dX1_take_138 (by decide) ?_
        refine lv_icmp_lt (tgt := 154) hx hb dX1_take_139 (by decide) (fun c_139 => ?_) (fun c_139 => ?_)
        · refine lv_iconst (v := 0) hx hb dX1_take_154 (by decide) ?_
          refine k_put (ci := 1) (C := RX1) (T := TX1) (N := 11) (v := .int 0) hx hb hown hG rfl kin_X1 tyX1 tyX1_ok nmX1 hP hS rfl 1 (by decide) wF_X1_47 rfl (by first | exact bI_nar _ | decide) (by first | exact bI_fit _ | decide) (Nat.le_of_ble_eq_true rfl) dX1_take_155 (fun H1 locs hP1 z1 oq1 hS => ?_)
          have hP : va_P D vwCl [(a, .inr (1, stF (upd (upd (upd (upd (upd (upd (upd (upd (gForget g) 0 1) 3 code) 4 wave) 5 (pFDiv ((code - wave) + 5) 10)) 6 ((code - wave) - (10 * (pFDiv ((code - wave) + 5) 10)))) 7 (g 7 + 1)) 8 0) 1 0)))] H1 := hP1
          exact ke_uv hx hb hr hlk hS dX1_take_158 (by have e9 : gTake g code wave n = (upd (upd (upd (upd (upd (upd (upd (upd (gForget g) 0 1) 3 code) 4 wave) 5 (pFDiv ((code - wave) + 5) 10)) 6 ((code - wave) - (10 * (pFDiv ((code - wave) + 5) 10)))) 7 (g 7 + 1)) 8 0) 1 0) := (by unfold gTake gFix gStdy gKept; rw [ego]; unfold gLeft gCnt; try simp only [↓reduceIte, if_pos (show (1 : Int32) < 3 from by decide), if_pos (show (0 : Int32) < 3 from by decide), if_neg c_81, if_neg c_108, if_pos c_139]; try rfl); rw [e9]; exact hP)
        · refine lv_aload_n hx hb dX1_take_142 rfl (lv_at hl 1 rfl) ?_
          refine k_get (ci := 1) (C := RX1) (T := TX1) (N := 11) (v := .int 0) hx hb hown hG rfl kin_X1 hP 8 (by decide) wF_X1_44 rfl dX1_take_143 ?_
          refine lv_iconst (v := 3) hx hb dX1_take_146 (by decide) ?_
          refine lv_icmp_lt (tgt := 154) hx hb dX1_take_147 (by decide) (fun _ => ?_) (fun q9 => absurd (by decide) q9)
          refine lv_iconst (v := 0) hx hb dX1_take_154 (by decide) ?_
          refine k_put (ci := 1) (C := RX1) (T := TX1) (N := 11) (v := .int 0) hx hb hown hG rfl kin_X1 tyX1 tyX1_ok nmX1 hP hS rfl 1 (by decide) wF_X1_47 rfl (by first | exact bI_nar _ | decide) (by first | exact bI_fit _ | decide) (Nat.le_of_ble_eq_true rfl) dX1_take_155 (fun H1 locs hP1 z1 oq1 hS => ?_)
          have hP : va_P D vwCl [(a, .inr (1, stF (upd (upd (upd (upd (upd (upd (upd (upd (gForget g) 0 1) 3 code) 4 wave) 5 (pFDiv ((code - wave) + 5) 10)) 6 ((code - wave) - (10 * (pFDiv ((code - wave) + 5) 10)))) 7 (g 7 + 1)) 8 0) 1 0)))] H1 := hP1
          exact ke_uv hx hb hr hlk hS dX1_take_158 (by have e9 : gTake g code wave n = (upd (upd (upd (upd (upd (upd (upd (upd (gForget g) 0 1) 3 code) 4 wave) 5 (pFDiv ((code - wave) + 5) 10)) 6 ((code - wave) - (10 * (pFDiv ((code - wave) + 5) 10)))) 7 (g 7 + 1)) 8 0) 1 0) := (by unfold gTake gFix gStdy gKept; rw [ego]; unfold gLeft gCnt; try simp only [↓reduceIte, if_pos (show (1 : Int32) < 3 from by decide), if_pos (show (0 : Int32) < 3 from by decide), if_neg c_81, if_neg c_108, if_neg c_139]; try rfl); rw [e9]; exact hP)
  refine lv_iload_n hx hb dX1_take_0 rfl (lv_at hl 3 rfl) ?_
  refine lv_if_eq (tgt := 15) hx hb dX1_take_1 (by decide) (fun c_1 => ?_) (fun c_1 => ?_)
  · refine lv_iconst (v := 0) hx hb dX1_take_15 (by decide) ?_
    exact jn16_1 false (by delta gGo; simp only [if_pos c_1]) ls (lv_sub hl [0, 1, 2, 3] rfl)
  · refine lv_aload_n hx hb dX1_take_4 rfl (lv_at hl 0 rfl) ?_
    refine k_get (ci := 1) (C := RX1) (T := TX1) (N := 11) (v := .int (g 0)) hx hb hown hG rfl kin_X1 hI 0 (by decide) wF_X1_9 rfl dX1_take_5 ?_
    refine lv_if_eq (tgt := 15) hx hb dX1_take_8 (by decide) (fun c_8 => ?_) (fun c_8 => ?_)
    · refine lv_iconst (v := 0) hx hb dX1_take_15 (by decide) ?_
      exact jn16_1 false (by delta gGo; simp only [if_neg c_1, if_pos c_8]) ls (lv_sub hl [0, 1, 2, 3] rfl)
    · refine lv_iconst (v := 1) hx hb dX1_take_11 (by decide) ?_
      refine lv_goto (tgt := 16) hx hb dX1_take_12 (by decide) ?_
      exact jn16_1 true (by delta gGo; simp only [if_neg c_1, if_neg c_8]) ls (lv_sub hl [0, 1, 2, 3] rfl)
set_option maxHeartbeats 4000000 in
set_option maxRecDepth 100000 in
theorem c_X3_moveClock (l : Launch) (D : va_G) (cy : Nat → ClassId) (a : Nat) (r : Nat → Int32) (k : Int32) : Met l yX3_moveClock [.code yX3_moveClock cX3_moveClock 2 none] ({ frames := 2, cells := 0, slots := 0, locals := 44 } : Room) (PC D cy [.ref a, .int k] (fun H => va_P D vwCl [(a, .inr (3, stF r))] H)) (UQv (fun q => q = a) (fun H => va_P D vwCl [(a, .inr (3, stF (rClock r k)))] H)) 0 0 (fun q => q = a) := by
  refine k_body (by decide +kernel) (Nat.le_of_ble_eq_true rfl) ?_
  intro p e s m below meth c ls hx hb hml hown hr hlk hmn hl hG hI
  have hml9 : c.maxLocals = 2 := hml.trans hl.1
  have hl : lv_has ls 2 [(0, .ref a), (1, .int k)] := hl
  have hS : va_S (fun q => q = a) s.heap s.heap [] := va_S.rf
  refine lv_aload_n hx hb dX3_moveClock_0 rfl (lv_at hl 0 rfl) ?_
  refine lv_aload_n hx hb dX3_moveClock_1 rfl (lv_at hl 0 rfl) ?_
  refine k_get (ci := 3) (C := RX3) (T := TX3) (N := 11) (v := .int (r 3)) hx hb hown hG rfl kin_X3 hI 3 (by decide) wF_X3_21 rfl dX3_moveClock_2 ?_
  refine lv_iload_n hx hb dX3_moveClock_5 rfl (lv_at hl 1 rfl) ?_
  refine lv_iadd hx hb dX3_moveClock_6 ?_
  refine lv_sipush (v := 999) hx hb dX3_moveClock_7 (by decide) ?_
  refine kc_i (kr_SN (As := [.int (r 3 + k), .int 999]) (rest := [.ref a]) hx hb hml hown hG (c_X6_held l D cy (r 3 + k) 999) cf_X6_held wMN_X3_37 trivial ⟨rfl, rfl, by decide, by decide⟩ rfl rfl (Nat.le_of_ble_eq_true rfl) ⟨Nat.le_of_ble_eq_true rfl, Nat.le_of_ble_eq_true rfl⟩ dX3_moveClock_10) ?_
  refine k_put (ci := 3) (C := RX3) (T := TX3) (N := 11) (v := .int (pHeld (r 3 + k) 999)) hx hb hown hG rfl kin_X3 tyX3 tyX3_ok nmX3 hI hS rfl 3 (by decide) wF_X3_21 rfl rfl rfl (Nat.le_of_ble_eq_true rfl) dX3_moveClock_13 (fun H1 locs hP1 z1 oq1 hS => ?_)
  have hP : va_P D vwCl [(a, .inr (3, stF (upd r 3 (pHeld (r 3 + k) 999))))] H1 := hP1
  exact ke_uv hx hb hr hlk hS dX3_moveClock_16 (by have e9 : rClock r k = (upd r 3 (pHeld (r 3 + k) 999)) := (by first | rfl | (try delta rClock; simp only [bI_true, bI_false])); rw [e9]; exact hP)
set_option maxHeartbeats 4000000 in
set_option maxRecDepth 100000 in
theorem c_X3_passOne (l : Launch) (D : va_G) (cy : Nat → ClassId) (a : Nat) (r : Nat → Int32) : Met l yX3_passOne [.code yX3_passOne cX3_passOne 1 none] ({ frames := 3, cells := 0, slots := 0, locals := 65 } : Room) (PC D cy [.ref a] (fun H => va_P D vwCl [(a, .inr (3, stF r))] H)) (UQv (fun q => q = a) (fun H => va_P D vwCl [(a, .inr (3, stF (rPass r)))] H)) 0 0 (fun q => q = a) := by
  refine k_body (by decide +kernel) (Nat.le_of_ble_eq_true rfl) ?_
  intro p e s m below meth c ls hx hb hml hown hr hlk hmn hl hG hI
  have hml9 : c.maxLocals = 1 := hml.trans hl.1
  have hl : lv_has ls 1 [(0, .ref a)] := hl
  have hS : va_S (fun q => q = a) s.heap s.heap [] := va_S.rf
  refine lv_aload_n hx hb dX3_passOne_0 rfl (lv_at hl 0 rfl) ?_
  refine lv_aload_n hx hb dX3_passOne_1 rfl (lv_at hl 0 rfl) ?_
  refine k_get (ci := 3) (C := RX3) (T := TX3) (N := 11) (v := .int (r 2)) hx hb hown hG rfl kin_X3 hI 2 (by decide) wF_X3_15 rfl dX3_passOne_2 ?_
  refine lv_aload_n hx hb dX3_passOne_5 rfl (lv_at hl 0 rfl) ?_
  refine k_get (ci := 3) (C := RX3) (T := TX3) (N := 11) (v := .int (r 1)) hx hb hown hG rfl kin_X3 hI 1 (by decide) wF_X3_18 rfl dX3_passOne_6 ?_
  refine lv_iadd hx hb dX3_passOne_9 ?_
  refine lv_bipush (v := 48) hx hb dX3_passOne_10 (by decide) ?_
  refine kc_i (kr_S (As := [.int (r 2 + r 1), .int 48]) (rest := [.ref a]) hx hb hml hown hG (c_J9_floorMod_7cf53 l D cy (r 2 + r 1) 48 (by decide)) cf_J9_floorMod_7cf53 wM_X3_41 trivial ⟨rfl, rfl, by decide, by decide⟩ rfl rfl (Nat.le_of_ble_eq_true rfl) ⟨Nat.le_of_ble_eq_true rfl, Nat.le_of_ble_eq_true rfl⟩ dX3_passOne_12) ?_
  refine k_put (ci := 3) (C := RX3) (T := TX3) (N := 11) (v := .int (pFMod (r 2 + r 1) 48)) hx hb hown hG rfl kin_X3 tyX3 tyX3_ok nmX3 hI hS rfl 2 (by decide) wF_X3_15 rfl rfl rfl (Nat.le_of_ble_eq_true rfl) dX3_passOne_15 (fun H1 locs hP1 z1 oq1 hS => ?_)
  have hP : va_P D vwCl [(a, .inr (3, stF (upd r 2 (pFMod (r 2 + r 1) 48))))] H1 := hP1
  refine lv_aload_n hx hb dX3_passOne_18 rfl (lv_at hl 0 rfl) ?_
  refine lv_aload_n hx hb dX3_passOne_19 rfl (lv_at hl 0 rfl) ?_
  refine k_get (ci := 3) (C := RX3) (T := TX3) (N := 11) (v := .int (r 4)) hx hb hown hG rfl kin_X3 hP 4 (by decide) wF_X3_24 rfl dX3_passOne_20 ?_
  refine kc_uv (kr_V (As := [.int (r 4)]) (rest := []) hx hb hml hown hG (c_X3_moveClock l D cy a (upd r 2 (pFMod (r 2 + r 1) 48)) (r 4)) cf_X3_moveClock wM_X3_46 hP rfl hP ⟨rfl, rfl, by decide, by decide⟩ rfl rfl (Nat.le_of_ble_eq_true rfl) ⟨Nat.le_of_ble_eq_true rfl, Nat.le_of_ble_eq_true rfl⟩ dX3_passOne_23) hS (fun _ h => h) (fun H1 locs hp1 z1 oq1 hS => ?_)
  have hP : va_P D vwCl [(a, .inr (3, stF (rClock (upd r 2 (pFMod (r 2 + r 1) 48)) (r 4))))] H1 := hp1
  exact ke_uv hx hb hr hlk hS dX3_passOne_26 (by have e9 : rPass r = (rClock (upd r 2 (pFMod (r 2 + r 1) 48)) (r 4)) := (by first | rfl | (try delta rPass; simp only [bI_true, bI_false])); rw [e9]; exact hP)
set_option maxHeartbeats 4000000 in
set_option maxRecDepth 100000 in
theorem c_X3_takeMessage (l : Launch) (D : va_G) (cy : Nat → ClassId) (a : Nat) (r : Nat → Int32) (ep dl : Int32) : Met l yX3_takeMessage [.code yX3_takeMessage cX3_takeMessage 5 none] ({ frames := 2, cells := 0, slots := 0, locals := 44 } : Room) (PC D cy [.ref a, .int ep, .int dl] (fun H => va_P D vwCl [(a, .inr (3, stF r))] H)) (UQv (fun q => q = a) (fun H => va_P D vwCl [(a, .inr (3, stF (rTake r ep dl)))] H)) 0 0 (fun q => q = a) := by
  refine k_body (by decide +kernel) (Nat.le_of_ble_eq_true rfl) ?_
  intro p e s m below meth c ls hx hb hml hown hr hlk hmn hl hG hI
  have hml9 : c.maxLocals = 5 := hml.trans hl.1
  have hl : lv_has ls 5 [(0, .ref a), (1, .int ep), (2, .int dl)] := hl
  have hS : va_S (fun q => q = a) s.heap s.heap [] := va_S.rf
  refine lv_aload_n hx hb dX3_takeMessage_0 rfl (lv_at hl 0 rfl) ?_
  refine k_get (ci := 3) (C := RX3) (T := TX3) (N := 11) (v := .int (r 3)) hx hb hown hG rfl kin_X3 hI 3 (by decide) wF_X3_21 rfl dX3_takeMessage_1 ?_
  refine lv_iload_n hx hb dX3_takeMessage_4 rfl (lv_at hl 2 rfl) ?_
  refine lv_iadd hx hb dX3_takeMessage_5 ?_
  refine lv_istore_n (lv' := [(3, .int (r 3 + dl)), (0, .ref a), (1, .int ep), (2, .int dl)]) hx hb dX3_takeMessage_6 rfl hl (by decide) rfl (fun ls hl => ?_)
  have hml : c.maxLocals = ls.size := hml9.trans hl.1.symm
  refine lv_iload_n hx hb dX3_takeMessage_7 rfl (lv_at hl 2 rfl) ?_
  refine lv_aload_n hx hb dX3_takeMessage_8 rfl (lv_at hl 1 rfl) ?_
  refine k_get (ci := 3) (C := RX3) (T := TX3) (N := 11) (v := .int (r 7)) hx hb hown hG rfl kin_X3 hI 7 (by decide) wF_X3_31 rfl dX3_takeMessage_9 ?_
  refine lv_isub hx hb dX3_takeMessage_12 ?_
  refine lv_istore (lv' := [(4, .int (ep - r 7)), (3, .int (r 3 + dl)), (0, .ref a), (1, .int ep), (2, .int dl)]) hx hb dX3_takeMessage_13 hl (by decide) rfl (fun ls hl => ?_)
  have hml : c.maxLocals = ls.size := hml9.trans hl.1.symm
  refine lv_aload_n hx hb dX3_takeMessage_15 rfl (lv_at hl 2 rfl) ?_
  refine k_get (ci := 3) (C := RX3) (T := TX3) (N := 11) (v := .int (r 6)) hx hb hown hG rfl kin_X3 hI 6 (by decide) wF_X3_54 rfl dX3_takeMessage_16 ?_
  refine lv_if_le (tgt := 45) hx hb dX3_takeMessage_19 (by decide) (fun c_19 => ?_) (fun c_19 => ?_)
  · refine lv_aload_n hx hb dX3_takeMessage_45 rfl (lv_at hl 2 rfl) ?_
    refine lv_dup hx hb dX3_takeMessage_46 rfl ?_
    refine k_get (ci := 3) (C := RX3) (T := TX3) (N := 11) (v := .int (r 6)) hx hb hown hG rfl kin_X3 hI 6 (by decide) wF_X3_54 rfl dX3_takeMessage_47 ?_
    refine lv_iconst (v := 1) hx hb dX3_takeMessage_50 (by decide) ?_
    refine lv_iadd hx hb dX3_takeMessage_51 ?_
    refine k_put (ci := 3) (C := RX3) (T := TX3) (N := 11) (v := .int (r 6 + 1)) hx hb hown hG rfl kin_X3 tyX3 tyX3_ok nmX3 hI hS rfl 6 (by decide) wF_X3_54 rfl rfl rfl (Nat.le_of_ble_eq_true rfl) dX3_takeMessage_52 (fun H1 locs hP1 z1 oq1 hS => ?_)
    have hP : va_P D vwCl [(a, .inr (3, stF (upd r 6 (r 6 + 1))))] H1 := hP1
    refine lv_aload_n hx hb dX3_takeMessage_55 rfl (lv_at hl 2 rfl) ?_
    refine lv_iload_n hx hb dX3_takeMessage_56 rfl (lv_at hl 3 rfl) ?_
    refine k_put (ci := 3) (C := RX3) (T := TX3) (N := 11) (v := .int ep) hx hb hown hG rfl kin_X3 tyX3 tyX3_ok nmX3 hP hS rfl 7 (by decide) wF_X3_31 rfl rfl rfl (Nat.le_of_ble_eq_true rfl) dX3_takeMessage_57 (fun H1 locs hP1 z1 oq1 hS => ?_)
    have hP : va_P D vwCl [(a, .inr (3, stF (upd (upd r 6 (r 6 + 1)) 7 ep)))] H1 := hP1
    refine lv_aload_n hx hb dX3_takeMessage_60 rfl (lv_at hl 2 rfl) ?_
    refine lv_aload_n hx hb dX3_takeMessage_61 rfl (lv_at hl 2 rfl) ?_
    refine k_get (ci := 3) (C := RX3) (T := TX3) (N := 11) (v := .int (r 2)) hx hb hown hG rfl kin_X3 hP 2 (by decide) wF_X3_15 rfl dX3_takeMessage_62 ?_
    refine k_put (ci := 3) (C := RX3) (T := TX3) (N := 11) (v := .int (r 2)) hx hb hown hG rfl kin_X3 tyX3 tyX3_ok nmX3 hP hS rfl 8 (by decide) wF_X3_34 rfl rfl rfl (Nat.le_of_ble_eq_true rfl) dX3_takeMessage_65 (fun H1 locs hP1 z1 oq1 hS => ?_)
    have hP : va_P D vwCl [(a, .inr (3, stF (upd (upd (upd r 6 (r 6 + 1)) 7 ep) 8 (r 2))))] H1 := hP1
    refine lv_aload_n hx hb dX3_takeMessage_68 rfl (lv_at hl 2 rfl) ?_
    refine lv_iload_n hx hb dX3_takeMessage_69 rfl (lv_at hl 1 rfl) ?_
    refine k_put (ci := 3) (C := RX3) (T := TX3) (N := 11) (v := .int (r 3 + dl)) hx hb hown hG rfl kin_X3 tyX3 tyX3_ok nmX3 hP hS rfl 9 (by decide) wF_X3_57 rfl rfl rfl (Nat.le_of_ble_eq_true rfl) dX3_takeMessage_70 (fun H1 locs hP1 z1 oq1 hS => ?_)
    have hP : va_P D vwCl [(a, .inr (3, stF (upd (upd (upd (upd r 6 (r 6 + 1)) 7 ep) 8 (r 2)) 9 (r 3 + dl))))] H1 := hP1
    exact ke_uv hx hb hr hlk hS dX3_takeMessage_73 (by have e9 : rTake r ep dl = (upd (upd (upd (upd r 6 (r 6 + 1)) 7 ep) 8 (r 2)) 9 (r 3 + dl)) := (by first | rfl | (try delta rTake; simp only [if_pos c_19, bI_true, bI_false])); rw [e9]; exact hP)
  · refine lv_iload hx hb dX3_takeMessage_22 (lv_at hl 0 rfl) ?_
    refine lv_if_eq (tgt := 45) hx hb dX3_takeMessage_24 (by decide) (fun c_24 => ?_) (fun c_24 => ?_)
    · refine lv_aload_n hx hb dX3_takeMessage_45 rfl (lv_at hl 2 rfl) ?_
      refine lv_dup hx hb dX3_takeMessage_46 rfl ?_
      refine k_get (ci := 3) (C := RX3) (T := TX3) (N := 11) (v := .int (r 6)) hx hb hown hG rfl kin_X3 hI 6 (by decide) wF_X3_54 rfl dX3_takeMessage_47 ?_
      refine lv_iconst (v := 1) hx hb dX3_takeMessage_50 (by decide) ?_
      refine lv_iadd hx hb dX3_takeMessage_51 ?_
      refine k_put (ci := 3) (C := RX3) (T := TX3) (N := 11) (v := .int (r 6 + 1)) hx hb hown hG rfl kin_X3 tyX3 tyX3_ok nmX3 hI hS rfl 6 (by decide) wF_X3_54 rfl rfl rfl (Nat.le_of_ble_eq_true rfl) dX3_takeMessage_52 (fun H1 locs hP1 z1 oq1 hS => ?_)
      have hP : va_P D vwCl [(a, .inr (3, stF (upd r 6 (r 6 + 1))))] H1 := hP1
      refine lv_aload_n hx hb dX3_takeMessage_55 rfl (lv_at hl 2 rfl) ?_
      refine lv_iload_n hx hb dX3_takeMessage_56 rfl (lv_at hl 3 rfl) ?_
      refine k_put (ci := 3) (C := RX3) (T := TX3) (N := 11) (v := .int ep) hx hb hown hG rfl kin_X3 tyX3 tyX3_ok nmX3 hP hS rfl 7 (by decide) wF_X3_31 rfl rfl rfl (Nat.le_of_ble_eq_true rfl) dX3_takeMessage_57 (fun H1 locs hP1 z1 oq1 hS => ?_)
      have hP : va_P D vwCl [(a, .inr (3, stF (upd (upd r 6 (r 6 + 1)) 7 ep)))] H1 := hP1
      refine lv_aload_n hx hb dX3_takeMessage_60 rfl (lv_at hl 2 rfl) ?_
      refine lv_aload_n hx hb dX3_takeMessage_61 rfl (lv_at hl 2 rfl) ?_
      refine k_get (ci := 3) (C := RX3) (T := TX3) (N := 11) (v := .int (r 2)) hx hb hown hG rfl kin_X3 hP 2 (by decide) wF_X3_15 rfl dX3_takeMessage_62 ?_
      refine k_put (ci := 3) (C := RX3) (T := TX3) (N := 11) (v := .int (r 2)) hx hb hown hG rfl kin_X3 tyX3 tyX3_ok nmX3 hP hS rfl 8 (by decide) wF_X3_34 rfl rfl rfl (Nat.le_of_ble_eq_true rfl) dX3_takeMessage_65 (fun H1 locs hP1 z1 oq1 hS => ?_)
      have hP : va_P D vwCl [(a, .inr (3, stF (upd (upd (upd r 6 (r 6 + 1)) 7 ep) 8 (r 2))))] H1 := hP1
      refine lv_aload_n hx hb dX3_takeMessage_68 rfl (lv_at hl 2 rfl) ?_
      refine lv_iload_n hx hb dX3_takeMessage_69 rfl (lv_at hl 1 rfl) ?_
      refine k_put (ci := 3) (C := RX3) (T := TX3) (N := 11) (v := .int (r 3 + dl)) hx hb hown hG rfl kin_X3 tyX3 tyX3_ok nmX3 hP hS rfl 9 (by decide) wF_X3_57 rfl rfl rfl (Nat.le_of_ble_eq_true rfl) dX3_takeMessage_70 (fun H1 locs hP1 z1 oq1 hS => ?_)
      have hP : va_P D vwCl [(a, .inr (3, stF (upd (upd (upd (upd r 6 (r 6 + 1)) 7 ep) 8 (r 2)) 9 (r 3 + dl))))] H1 := hP1
      exact ke_uv hx hb hr hlk hS dX3_takeMessage_73 (by have e9 : rTake r ep dl = (upd (upd (upd (upd r 6 (r 6 + 1)) 7 ep) 8 (r 2)) 9 (r 3 + dl)) := (by first | rfl | (try delta rTake; simp only [if_neg c_19, if_pos c_24, bI_true, bI_false])); rw [e9]; exact hP)
    · refine lv_aload_n hx hb dX3_takeMessage_27 rfl (lv_at hl 2 rfl) ?_
      refine lv_iload_n hx hb dX3_takeMessage_28 rfl (lv_at hl 1 rfl) ?_
      refine lv_aload_n hx hb dX3_takeMessage_29 rfl (lv_at hl 2 rfl) ?_
      refine k_get (ci := 3) (C := RX3) (T := TX3) (N := 11) (v := .int (r 9)) hx hb hown hG rfl kin_X3 hI 9 (by decide) wF_X3_57 rfl dX3_takeMessage_30 ?_
      refine lv_isub hx hb dX3_takeMessage_33 ?_
      refine lv_iload hx hb dX3_takeMessage_34 (lv_at hl 0 rfl) ?_
      refine lv_idiv hx hb dX3_takeMessage_36 c_24 ?_
      refine lv_bipush (v := 9) hx hb dX3_takeMessage_37 (by decide) ?_
      refine kc_i (kr_SN (As := [.int (((r 3 + dl) - r 9) / (ep - r 7)), .int 9]) (rest := [.ref a]) hx hb hml hown hG (c_X6_held l D cy (((r 3 + dl) - r 9) / (ep - r 7)) 9) cf_X6_held wMN_X3_37 trivial ⟨rfl, rfl, by decide, by decide⟩ rfl rfl (Nat.le_of_ble_eq_true rfl) ⟨Nat.le_of_ble_eq_true rfl, Nat.le_of_ble_eq_true rfl⟩ dX3_takeMessage_39) ?_
      refine k_put (ci := 3) (C := RX3) (T := TX3) (N := 11) (v := .int (pHeld (((r 3 + dl) - r 9) / (ep - r 7)) 9)) hx hb hown hG rfl kin_X3 tyX3 tyX3_ok nmX3 hI hS rfl 10 (by decide) wF_X3_60 rfl rfl rfl (Nat.le_of_ble_eq_true rfl) dX3_takeMessage_42 (fun H1 locs hP1 z1 oq1 hS => ?_)
      have hP : va_P D vwCl [(a, .inr (3, stF (upd r 10 (pHeld (((r 3 + dl) - r 9) / (ep - r 7)) 9))))] H1 := hP1
      refine lv_aload_n hx hb dX3_takeMessage_45 rfl (lv_at hl 2 rfl) ?_
      refine lv_dup hx hb dX3_takeMessage_46 rfl ?_
      refine k_get (ci := 3) (C := RX3) (T := TX3) (N := 11) (v := .int (r 6)) hx hb hown hG rfl kin_X3 hP 6 (by decide) wF_X3_54 rfl dX3_takeMessage_47 ?_
      refine lv_iconst (v := 1) hx hb dX3_takeMessage_50 (by decide) ?_
      refine lv_iadd hx hb dX3_takeMessage_51 ?_
      refine k_put (ci := 3) (C := RX3) (T := TX3) (N := 11) (v := .int (r 6 + 1)) hx hb hown hG rfl kin_X3 tyX3 tyX3_ok nmX3 hP hS rfl 6 (by decide) wF_X3_54 rfl rfl rfl (Nat.le_of_ble_eq_true rfl) dX3_takeMessage_52 (fun H1 locs hP1 z1 oq1 hS => ?_)
      have hP : va_P D vwCl [(a, .inr (3, stF (upd (upd r 10 (pHeld (((r 3 + dl) - r 9) / (ep - r 7)) 9)) 6 (r 6 + 1))))] H1 := hP1
      refine lv_aload_n hx hb dX3_takeMessage_55 rfl (lv_at hl 2 rfl) ?_
      refine lv_iload_n hx hb dX3_takeMessage_56 rfl (lv_at hl 3 rfl) ?_
      refine k_put (ci := 3) (C := RX3) (T := TX3) (N := 11) (v := .int ep) hx hb hown hG rfl kin_X3 tyX3 tyX3_ok nmX3 hP hS rfl 7 (by decide) wF_X3_31 rfl rfl rfl (Nat.le_of_ble_eq_true rfl) dX3_takeMessage_57 (fun H1 locs hP1 z1 oq1 hS => ?_)
      have hP : va_P D vwCl [(a, .inr (3, stF (upd (upd (upd r 10 (pHeld (((r 3 + dl) - r 9) / (ep - r 7)) 9)) 6 (r 6 + 1)) 7 ep)))] H1 := hP1
      refine lv_aload_n hx hb dX3_takeMessage_60 rfl (lv_at hl 2 rfl) ?_
      refine lv_aload_n hx hb dX3_takeMessage_61 rfl (lv_at hl 2 rfl) ?_
      refine k_get (ci := 3) (C := RX3) (T := TX3) (N := 11) (v := .int (r 2)) hx hb hown hG rfl kin_X3 hP 2 (by decide) wF_X3_15 rfl dX3_takeMessage_62 ?_
      refine k_put (ci := 3) (C := RX3) (T := TX3) (N := 11) (v := .int (r 2)) hx hb hown hG rfl kin_X3 tyX3 tyX3_ok nmX3 hP hS rfl 8 (by decide) wF_X3_34 rfl rfl rfl (Nat.le_of_ble_eq_true rfl) dX3_takeMessage_65 (fun H1 locs hP1 z1 oq1 hS => ?_)
      have hP : va_P D vwCl [(a, .inr (3, stF (upd (upd (upd (upd r 10 (pHeld (((r 3 + dl) - r 9) / (ep - r 7)) 9)) 6 (r 6 + 1)) 7 ep) 8 (r 2))))] H1 := hP1
      refine lv_aload_n hx hb dX3_takeMessage_68 rfl (lv_at hl 2 rfl) ?_
      refine lv_iload_n hx hb dX3_takeMessage_69 rfl (lv_at hl 1 rfl) ?_
      refine k_put (ci := 3) (C := RX3) (T := TX3) (N := 11) (v := .int (r 3 + dl)) hx hb hown hG rfl kin_X3 tyX3 tyX3_ok nmX3 hP hS rfl 9 (by decide) wF_X3_57 rfl rfl rfl (Nat.le_of_ble_eq_true rfl) dX3_takeMessage_70 (fun H1 locs hP1 z1 oq1 hS => ?_)
      have hP : va_P D vwCl [(a, .inr (3, stF (upd (upd (upd (upd (upd r 10 (pHeld (((r 3 + dl) - r 9) / (ep - r 7)) 9)) 6 (r 6 + 1)) 7 ep) 8 (r 2)) 9 (r 3 + dl))))] H1 := hP1
      exact ke_uv hx hb hr hlk hS dX3_takeMessage_73 (by have e9 : rTake r ep dl = (upd (upd (upd (upd (upd r 10 (pHeld (((r 3 + dl) - r 9) / (ep - r 7)) 9)) 6 (r 6 + 1)) 7 ep) 8 (r 2)) 9 (r 3 + dl)) := (by first | rfl | (try delta rTake; simp only [if_neg c_19, if_neg c_24, bI_true, bI_false])); rw [e9]; exact hP)
set_option maxHeartbeats 4000000 in
set_option maxRecDepth 100000 in
theorem c_X2_hasSolution (l : Launch) (D : va_G) (cy : Nat → ClassId) (b : Nat) (z : Nat → Int32) (lc lb : Int64) (bs : Nat → Nat) : Met l yX2_hasSolution [.code yX2_hasSolution cX2_hasSolution 1 (some .boolean)] ({ frames := 0, cells := 0, slots := 0, locals := 0 } : Room) (PC D cy [.ref b] (fun H => va_P D vwCl [(b, .inr (2, svF z lc lb bs))] H)) (RQi (bI (pHas z))) 0 0 (fun _ => False) := by
  refine k_body (by decide +kernel) (Nat.le_of_ble_eq_true rfl) ?_
  intro p e s m below meth c ls hx hb hml hown hr hlk hmn hl hG hI
  have hml9 : c.maxLocals = 1 := hml.trans hl.1
  have hl : lv_has ls 1 [(0, .ref b)] := hl
  refine lv_aload_n hx hb dX2_hasSolution_0 rfl (lv_at hl 0 rfl) ?_
  refine k_get (ci := 2) (C := RX2) (T := TX2) (N := 15) (v := .int (z 5)) hx hb hown hG rfl kin_X2 hI 5 (by decide) wF_X2_27 rfl dX2_hasSolution_1 ?_
  refine lv_iconst (v := 3) hx hb dX2_hasSolution_4 (by decide) ?_
  refine lv_icmp_lt (tgt := 12) hx hb dX2_hasSolution_5 (by decide) (fun c_5 => ?_) (fun c_5 => ?_)
  · refine lv_iconst (v := 0) hx hb dX2_hasSolution_12 (by decide) ?_
    exact ke_z hx hb hr hlk dX2_hasSolution_13 (by first | rfl | (try delta pHas; simp only [if_pos c_5, bI_true, bI_false]))
  · refine lv_iconst (v := 1) hx hb dX2_hasSolution_8 (by decide) ?_
    refine lv_goto (tgt := 13) hx hb dX2_hasSolution_9 (by decide) ?_
    exact ke_z hx hb hr hlk dX2_hasSolution_13 (by first | rfl | (try delta pHas; simp only [if_neg c_5, bI_true, bI_false]))
set_option maxHeartbeats 4000000 in
set_option maxRecDepth 100000 in
theorem c_X5_keepSolution (l : Launch) (D : va_G) (cy : Nat → ClassId) (a : Nat) (t : Nat → Int32) (b : Nat) (z : Nat → Int32) (lc lb : Int64) (bs : Nat → Nat) (hba : b ≠ a) (tx ty : Int32) : Met l yX5_keepSolution [.code yX5_keepSolution cX5_keepSolution 5 none] ({ frames := 3, cells := 0, slots := 0, locals := 68 } : Room) (PC D cy [.ref a, .ref b, .int tx, .int ty] (fun H => va_P D vwCl [(a, .inr (5, trF t))] H ∧ va_P D vwCl [(b, .inr (2, svF z lc lb bs))] H)) (UQv (fun q => q = a) (fun H => va_P D vwCl [(a, .inr (5, trF (tKS t z lc tx ty)))] H)) 0 0 (fun q => q = a) := by
  refine k_body (by decide +kernel) (Nat.le_of_ble_eq_true rfl) ?_
  intro p e s m below meth c ls hx hb hml hown hr hlk hmn hl hG hI
  have hml9 : c.maxLocals = 5 := hml.trans hl.1
  have hl : lv_has ls 5 [(0, .ref a), (1, .ref b), (2, .int tx), (3, .int ty)] := hl
  have hS : va_S (fun q => q = a) s.heap s.heap [] := va_S.rf
  refine lv_aload_n hx hb dX5_keepSolution_0 rfl (lv_at hl 0 rfl) ?_
  refine lv_aload_n hx hb dX5_keepSolution_1 rfl (lv_at hl 1 rfl) ?_
  refine k_getN (ci := 2) (C := RX2) (T := TX2) (N := 15) (v := .int (z 6)) hx hb hown hG rfl kin_X2 hI.2 6 (by decide) wFN_X5_56 rfl dX5_keepSolution_2 ?_
  refine k_put (ci := 5) (C := RX5) (T := TX5) (N := 13) (v := .int (z 6)) hx hb hown hG rfl kin_X5 tyX5 tyX5_ok nmX5 hI.1 hS rfl 5 (by decide) wF_X5_31 rfl rfl rfl (Nat.le_of_ble_eq_true rfl) dX5_keepSolution_5 (fun H1 locs hP1 z1 oq1 hS => ?_)
  have hP : va_P D vwCl [(a, .inr (5, trF (upd t 5 (z 6))))] H1 := hP1
  have hO_b := kP_keep hI.2 oq1 hba
  refine lv_aload_n hx hb dX5_keepSolution_8 rfl (lv_at hl 0 rfl) ?_
  refine lv_aload_n hx hb dX5_keepSolution_9 rfl (lv_at hl 1 rfl) ?_
  refine k_getN (ci := 2) (C := RX2) (T := TX2) (N := 15) (v := .int (z 7)) hx hb hown hG rfl kin_X2 hO_b 7 (by decide) wFN_X5_57 rfl dX5_keepSolution_10 ?_
  refine k_put (ci := 5) (C := RX5) (T := TX5) (N := 13) (v := .int (z 7)) hx hb hown hG rfl kin_X5 tyX5 tyX5_ok nmX5 hP hS rfl 6 (by decide) wF_X5_34 rfl rfl rfl (Nat.le_of_ble_eq_true rfl) dX5_keepSolution_13 (fun H1 locs hP1 z1 oq1 hS => ?_)
  have hP : va_P D vwCl [(a, .inr (5, trF (upd (upd t 5 (z 6)) 6 (z 7))))] H1 := hP1
  have hO_b := kP_keep hO_b oq1 hba
  refine lv_aload_n hx hb dX5_keepSolution_16 rfl (lv_at hl 0 rfl) ?_
  refine lv_aload_n hx hb dX5_keepSolution_17 rfl (lv_at hl 1 rfl) ?_
  refine k_getN (ci := 2) (C := RX2) (T := TX2) (N := 15) (v := .int (z 8)) hx hb hown hG rfl kin_X2 hO_b 8 (by decide) wFN_X5_58 rfl dX5_keepSolution_18 ?_
  refine k_put (ci := 5) (C := RX5) (T := TX5) (N := 13) (v := .int (z 8)) hx hb hown hG rfl kin_X5 tyX5 tyX5_ok nmX5 hP hS rfl 7 (by decide) wF_X5_61 rfl rfl rfl (Nat.le_of_ble_eq_true rfl) dX5_keepSolution_21 (fun H1 locs hP1 z1 oq1 hS => ?_)
  have hP : va_P D vwCl [(a, .inr (5, trF (upd (upd (upd t 5 (z 6)) 6 (z 7)) 7 (z 8))))] H1 := hP1
  have hO_b := kP_keep hO_b oq1 hba
  refine lv_aload_n hx hb dX5_keepSolution_24 rfl (lv_at hl 0 rfl) ?_
  refine lv_aload_n hx hb dX5_keepSolution_25 rfl (lv_at hl 1 rfl) ?_
  refine k_getN (ci := 2) (C := RX2) (T := TX2) (N := 15) (v := .long lc) hx hb hown hG rfl kin_X2 hO_b 9 (by decide) wFN_X5_62 rfl dX5_keepSolution_26 ?_
  refine lv_l2i (v := lc.toInt32) hx hb dX5_keepSolution_29 rfl ?_
  refine k_put (ci := 5) (C := RX5) (T := TX5) (N := 13) (v := .int lc.toInt32) hx hb hown hG rfl kin_X5 tyX5 tyX5_ok nmX5 hP hS rfl 8 (by decide) wF_X5_66 rfl rfl rfl (Nat.le_of_ble_eq_true rfl) dX5_keepSolution_30 (fun H1 locs hP1 z1 oq1 hS => ?_)
  have hP : va_P D vwCl [(a, .inr (5, trF (upd (upd (upd (upd t 5 (z 6)) 6 (z 7)) 7 (z 8)) 8 lc.toInt32)))] H1 := hP1
  have hO_b := kP_keep hO_b oq1 hba
  refine lv_aload_n hx hb dX5_keepSolution_33 rfl (lv_at hl 0 rfl) ?_
  refine lv_dup hx hb dX5_keepSolution_34 rfl ?_
  refine k_get (ci := 5) (C := RX5) (T := TX5) (N := 13) (v := .int (t 3)) hx hb hown hG rfl kin_X5 hP 3 (by decide) wF_X5_68 rfl dX5_keepSolution_35 ?_
  refine lv_iconst (v := 1) hx hb dX5_keepSolution_38 (by decide) ?_
  refine lv_iadd hx hb dX5_keepSolution_39 ?_
  refine k_put (ci := 5) (C := RX5) (T := TX5) (N := 13) (v := .int (t 3 + 1)) hx hb hown hG rfl kin_X5 tyX5 tyX5_ok nmX5 hP hS rfl 3 (by decide) wF_X5_68 rfl rfl rfl (Nat.le_of_ble_eq_true rfl) dX5_keepSolution_40 (fun H1 locs hP1 z1 oq1 hS => ?_)
  have hP : va_P D vwCl [(a, .inr (5, trF (upd (upd (upd (upd (upd t 5 (z 6)) 6 (z 7)) 7 (z 8)) 8 lc.toInt32) 3 (t 3 + 1))))] H1 := hP1
  have hO_b := kP_keep hO_b oq1 hba
  refine lv_aload_n hx hb dX5_keepSolution_43 rfl (lv_at hl 0 rfl) ?_
  refine lv_iload_n hx hb dX5_keepSolution_44 rfl (lv_at hl 2 rfl) ?_
  refine lv_iload_n hx hb dX5_keepSolution_45 rfl (lv_at hl 3 rfl) ?_
  refine kc_i (kr_V (As := [.int tx, .int ty]) (rest := []) hx hb hml hown hG (c_X5_errorAt l D cy a (upd (upd (upd (upd (upd t 5 (z 6)) 6 (z 7)) 7 (z 8)) 8 lc.toInt32) 3 (t 3 + 1)) tx ty) cf_X5_errorAt wM_X5_71 hP rfl hP ⟨rfl, rfl, by decide, by decide⟩ rfl rfl (Nat.le_of_ble_eq_true rfl) ⟨Nat.le_of_ble_eq_true rfl, Nat.le_of_ble_eq_true rfl⟩ dX5_keepSolution_46) ?_
  refine lv_istore (lv' := [(4, .int (pErrAt (upd (upd (upd (upd (upd t 5 (z 6)) 6 (z 7)) 7 (z 8)) 8 lc.toInt32) 3 (t 3 + 1)) tx ty)), (0, .ref a), (1, .ref b), (2, .int tx), (3, .int ty)]) hx hb dX5_keepSolution_49 hl (by decide) rfl (fun ls hl => ?_)
  have hml : c.maxLocals = ls.size := hml9.trans hl.1.symm
  refine lv_aload_n hx hb dX5_keepSolution_51 rfl (lv_at hl 1 rfl) ?_
  refine lv_dup hx hb dX5_keepSolution_52 rfl ?_
  refine k_get (ci := 5) (C := RX5) (T := TX5) (N := 13) (v := .int (t 4)) hx hb hown hG rfl kin_X5 hP 4 (by decide) wF_X5_75 rfl dX5_keepSolution_53 ?_
  refine lv_iload hx hb dX5_keepSolution_56 (lv_at hl 0 rfl) ?_
  refine lv_iadd hx hb dX5_keepSolution_58 ?_
  refine k_put (ci := 5) (C := RX5) (T := TX5) (N := 13) (v := .int (t 4 + (pErrAt (upd (upd (upd (upd (upd t 5 (z 6)) 6 (z 7)) 7 (z 8)) 8 lc.toInt32) 3 (t 3 + 1)) tx ty))) hx hb hown hG rfl kin_X5 tyX5 tyX5_ok nmX5 hP hS rfl 4 (by decide) wF_X5_75 rfl rfl rfl (Nat.le_of_ble_eq_true rfl) dX5_keepSolution_59 (fun H1 locs hP1 z1 oq1 hS => ?_)
  have hP : va_P D vwCl [(a, .inr (5, trF (upd (upd (upd (upd (upd (upd t 5 (z 6)) 6 (z 7)) 7 (z 8)) 8 lc.toInt32) 3 (t 3 + 1)) 4 (t 4 + (pErrAt (upd (upd (upd (upd (upd t 5 (z 6)) 6 (z 7)) 7 (z 8)) 8 lc.toInt32) 3 (t 3 + 1)) tx ty)))))] H1 := hP1
  have hO_b := kP_keep hO_b oq1 hba
  refine lv_aload_n hx hb dX5_keepSolution_62 rfl (lv_at hl 1 rfl) ?_
  refine k_get (ci := 5) (C := RX5) (T := TX5) (N := 13) (v := .int (t 10)) hx hb hown hG rfl kin_X5 hP 10 (by decide) wF_X5_45 rfl dX5_keepSolution_63 ?_
  refine lv_if_ne (tgt := 88) hx hb dX5_keepSolution_66 (by decide) (fun c_66 => ?_) (fun c_66 => ?_)
  · exact ke_uv hx hb hr hlk hS dX5_keepSolution_88 (by have e9 : tKS t z lc tx ty = (upd (upd (upd (upd (upd (upd t 5 (z 6)) 6 (z 7)) 7 (z 8)) 8 lc.toInt32) 3 (t 3 + 1)) 4 (t 4 + (pErrAt (upd (upd (upd (upd (upd t 5 (z 6)) 6 (z 7)) 7 (z 8)) 8 lc.toInt32) 3 (t 3 + 1)) tx ty))) := (by first | rfl | (try delta tKS; try delta tKS1; simp only [if_neg c_66, bI_true, bI_false])); rw [e9]; exact hP)
  · refine lv_iload hx hb dX5_keepSolution_69 (lv_at hl 0 rfl) ?_
    refine lv_aload_n hx hb dX5_keepSolution_71 rfl (lv_at hl 1 rfl) ?_
    refine k_get (ci := 5) (C := RX5) (T := TX5) (N := 13) (v := .int (t 9)) hx hb hown hG rfl kin_X5 hP 9 (by decide) wF_X5_15 rfl dX5_keepSolution_72 ?_
    refine lv_icmp_le (tgt := 88) hx hb dX5_keepSolution_75 (by decide) (fun c_75 => ?_) (fun c_75 => ?_)
    · exact ke_uv hx hb hr hlk hS dX5_keepSolution_88 (by have e9 : tKS t z lc tx ty = (upd (upd (upd (upd (upd (upd t 5 (z 6)) 6 (z 7)) 7 (z 8)) 8 lc.toInt32) 3 (t 3 + 1)) 4 (t 4 + (pErrAt (upd (upd (upd (upd (upd t 5 (z 6)) 6 (z 7)) 7 (z 8)) 8 lc.toInt32) 3 (t 3 + 1)) tx ty))) := (by first | rfl | (try delta tKS; try delta tKS1; simp only [if_pos c_66, if_pos c_75, bI_true, bI_false])); rw [e9]; exact hP)
    · refine lv_aload_n hx hb dX5_keepSolution_78 rfl (lv_at hl 1 rfl) ?_
      refine lv_dup hx hb dX5_keepSolution_79 rfl ?_
      refine k_get (ci := 5) (C := RX5) (T := TX5) (N := 13) (v := .int (t 11)) hx hb hown hG rfl kin_X5 hP 11 (by decide) wF_X5_78 rfl dX5_keepSolution_80 ?_
      refine lv_iconst (v := 1) hx hb dX5_keepSolution_83 (by decide) ?_
      refine lv_iadd hx hb dX5_keepSolution_84 ?_
      refine k_put (ci := 5) (C := RX5) (T := TX5) (N := 13) (v := .int (t 11 + 1)) hx hb hown hG rfl kin_X5 tyX5 tyX5_ok nmX5 hP hS rfl 11 (by decide) wF_X5_78 rfl rfl rfl (Nat.le_of_ble_eq_true rfl) dX5_keepSolution_85 (fun H1 locs hP1 z1 oq1 hS => ?_)
      have hP : va_P D vwCl [(a, .inr (5, trF (upd (upd (upd (upd (upd (upd (upd t 5 (z 6)) 6 (z 7)) 7 (z 8)) 8 lc.toInt32) 3 (t 3 + 1)) 4 (t 4 + (pErrAt (upd (upd (upd (upd (upd t 5 (z 6)) 6 (z 7)) 7 (z 8)) 8 lc.toInt32) 3 (t 3 + 1)) tx ty))) 11 (t 11 + 1))))] H1 := hP1
      have hO_b := kP_keep hO_b oq1 hba
      exact ke_uv hx hb hr hlk hS dX5_keepSolution_88 (by have e9 : tKS t z lc tx ty = (upd (upd (upd (upd (upd (upd (upd t 5 (z 6)) 6 (z 7)) 7 (z 8)) 8 lc.toInt32) 3 (t 3 + 1)) 4 (t 4 + (pErrAt (upd (upd (upd (upd (upd t 5 (z 6)) 6 (z 7)) 7 (z 8)) 8 lc.toInt32) 3 (t 3 + 1)) tx ty))) 11 (t 11 + 1)) := (by first | rfl | (try delta tKS; try delta tKS1; simp only [if_pos c_66, if_neg c_75, bI_true, bI_false])); rw [e9]; exact hP)
set_option maxHeartbeats 4000000 in
set_option maxRecDepth 100000 in
theorem c_X5_keepAll (l : Launch) (D : va_G) (cy : Nat → ClassId) (a : Nat) (t : Nat → Int32) (b : Nat) (z : Nat → Int32) (lc lb : Int64) (bs : Nat → Nat) (hba : b ≠ a) (ep al tx ty : Int32) : Met l yX5_keepAll [.code yX5_keepAll cX5_keepAll 6 none] ({ frames := 4, cells := 0, slots := 0, locals := 92 } : Room) (PC D cy [.ref a, .int ep, .ref b, .int al, .int tx, .int ty] (fun H => va_P D vwCl [(a, .inr (5, trF t))] H ∧ va_P D vwCl [(b, .inr (2, svF z lc lb bs))] H)) (UQv (fun q => q = a) (fun H => va_P D vwCl [(a, .inr (5, trF (tKA t ep z lc al tx ty)))] H)) 0 0 (fun q => q = a) := by
  refine k_body (by decide +kernel) (Nat.le_of_ble_eq_true rfl) ?_
  intro p e s m below meth c ls hx hb hml hown hr hlk hmn hl hG hI
  have hml9 : c.maxLocals = 6 := hml.trans hl.1
  have hl : lv_has ls 6 [(0, .ref a), (1, .int ep), (2, .ref b), (3, .int al), (4, .int tx), (5, .int ty)] := hl
  have hS : va_S (fun q => q = a) s.heap s.heap [] := va_S.rf
  refine lv_aload_n hx hb dX5_keepAll_0 rfl (lv_at hl 0 rfl) ?_
  refine lv_dup hx hb dX5_keepAll_1 rfl ?_
  refine k_get (ci := 5) (C := RX5) (T := TX5) (N := 13) (v := .int (t 0)) hx hb hown hG rfl kin_X5 hI.1 0 (by decide) wF_X5_21 rfl dX5_keepAll_2 ?_
  refine lv_iconst (v := 1) hx hb dX5_keepAll_5 (by decide) ?_
  refine lv_iadd hx hb dX5_keepAll_6 ?_
  refine k_put (ci := 5) (C := RX5) (T := TX5) (N := 13) (v := .int (t 0 + 1)) hx hb hown hG rfl kin_X5 tyX5 tyX5_ok nmX5 hI.1 hS rfl 0 (by decide) wF_X5_21 rfl rfl rfl (Nat.le_of_ble_eq_true rfl) dX5_keepAll_7 (fun H1 locs hP1 z1 oq1 hS => ?_)
  have hP : va_P D vwCl [(a, .inr (5, trF (upd t 0 (t 0 + 1))))] H1 := hP1
  have hO_b := kP_keep hI.2 oq1 hba
  refine lv_aload_n hx hb dX5_keepAll_10 rfl (lv_at hl 0 rfl) ?_
  refine lv_iload_n hx hb dX5_keepAll_11 rfl (lv_at hl 1 rfl) ?_
  refine k_put (ci := 5) (C := RX5) (T := TX5) (N := 13) (v := .int ep) hx hb hown hG rfl kin_X5 tyX5 tyX5_ok nmX5 hP hS rfl 1 (by decide) wF_X5_9 rfl rfl rfl (Nat.le_of_ble_eq_true rfl) dX5_keepAll_12 (fun H1 locs hP1 z1 oq1 hS => ?_)
  have hP : va_P D vwCl [(a, .inr (5, trF (upd (upd t 0 (t 0 + 1)) 1 ep)))] H1 := hP1
  have hO_b := kP_keep hO_b oq1 hba
  refine lv_aload_n hx hb dX5_keepAll_15 rfl (lv_at hl 0 rfl) ?_
  refine lv_aload_n hx hb dX5_keepAll_16 rfl (lv_at hl 2 rfl) ?_
  refine k_getN (ci := 2) (C := RX2) (T := TX2) (N := 15) (v := .int (z 5)) hx hb hown hG rfl kin_X2 hO_b 5 (by decide) wFN_X5_41 rfl dX5_keepAll_17 ?_
  refine k_put (ci := 5) (C := RX5) (T := TX5) (N := 13) (v := .int (z 5)) hx hb hown hG rfl kin_X5 tyX5 tyX5_ok nmX5 hP hS rfl 2 (by decide) wF_X5_28 rfl rfl rfl (Nat.le_of_ble_eq_true rfl) dX5_keepAll_20 (fun H1 locs hP1 z1 oq1 hS => ?_)
  have hP : va_P D vwCl [(a, .inr (5, trF (upd (upd (upd t 0 (t 0 + 1)) 1 ep) 2 (z 5))))] H1 := hP1
  have hO_b := kP_keep hO_b oq1 hba
  refine lv_aload_n hx hb dX5_keepAll_23 rfl (lv_at hl 0 rfl) ?_
  refine lv_aload_n hx hb dX5_keepAll_24 rfl (lv_at hl 2 rfl) ?_
  refine k_getN (ci := 2) (C := RX2) (T := TX2) (N := 15) (v := .int (z 10)) hx hb hown hG rfl kin_X2 hO_b 10 (by decide) wFN_X5_44 rfl dX5_keepAll_25 ?_
  refine k_put (ci := 5) (C := RX5) (T := TX5) (N := 13) (v := .int (z 10)) hx hb hown hG rfl kin_X5 tyX5 tyX5_ok nmX5 hP hS rfl 9 (by decide) wF_X5_15 rfl rfl rfl (Nat.le_of_ble_eq_true rfl) dX5_keepAll_28 (fun H1 locs hP1 z1 oq1 hS => ?_)
  have hP : va_P D vwCl [(a, .inr (5, trF (upd (upd (upd (upd t 0 (t 0 + 1)) 1 ep) 2 (z 5)) 9 (z 10))))] H1 := hP1
  have hO_b := kP_keep hO_b oq1 hba
  refine lv_aload_n hx hb dX5_keepAll_31 rfl (lv_at hl 0 rfl) ?_
  refine lv_iload_n hx hb dX5_keepAll_32 rfl (lv_at hl 3 rfl) ?_
  refine k_put (ci := 5) (C := RX5) (T := TX5) (N := 13) (v := .int al) hx hb hown hG rfl kin_X5 tyX5 tyX5_ok nmX5 hP hS rfl 10 (by decide) wF_X5_45 rfl rfl rfl (Nat.le_of_ble_eq_true rfl) dX5_keepAll_33 (fun H1 locs hP1 z1 oq1 hS => ?_)
  have hP : va_P D vwCl [(a, .inr (5, trF (upd (upd (upd (upd (upd t 0 (t 0 + 1)) 1 ep) 2 (z 5)) 9 (z 10)) 10 al)))] H1 := hP1
  have hO_b := kP_keep hO_b oq1 hba
  refine lv_aload_n hx hb dX5_keepAll_36 rfl (lv_at hl 0 rfl) ?_
  refine k_get (ci := 5) (C := RX5) (T := TX5) (N := 13) (v := .int al) hx hb hown hG rfl kin_X5 hP 10 (by decide) wF_X5_45 rfl dX5_keepAll_37 ?_
  refine lv_if_le (tgt := 48) hx hb dX5_keepAll_40 (by decide) (fun c_40 => ?_) (fun c_40 => ?_)
  · refine lv_aload_n hx hb dX5_keepAll_48 rfl (lv_at hl 2 rfl) ?_
    refine kc_i (kr_VN (As := []) (rest := []) hx hb hml hown hG (c_X2_hasSolution l D cy b z lc lb bs) cf_X2_hasSolution wMN_X5_48 hO_b rfl hO_b ⟨rfl, rfl, by decide, by decide⟩ rfl rfl (Nat.le_of_ble_eq_true rfl) ⟨Nat.le_of_ble_eq_true rfl, Nat.le_of_ble_eq_true rfl⟩ dX5_keepAll_49) ?_
    refine lv_if_eq (tgt := 64) hx hb dX5_keepAll_52 (by decide) (fun c_52 => ?_) (fun c_52 => ?_)
    · exact ke_uv hx hb hr hlk hS dX5_keepAll_64 (by have e9 : tKA t ep z lc al tx ty = (upd (upd (upd (upd (upd t 0 (t 0 + 1)) 1 ep) 2 (z 5)) 9 (z 10)) 10 al) := (by first | rfl | (try delta tKA; try delta tKA1; simp only [if_pos c_40, if_pos c_52, bI_true, bI_false])); rw [e9]; exact hP)
    · refine lv_aload_n hx hb dX5_keepAll_55 rfl (lv_at hl 0 rfl) ?_
      refine lv_aload_n hx hb dX5_keepAll_56 rfl (lv_at hl 2 rfl) ?_
      refine lv_iload hx hb dX5_keepAll_57 (lv_at hl 4 rfl) ?_
      refine lv_iload hx hb dX5_keepAll_59 (lv_at hl 5 rfl) ?_
      refine kc_uv (kr_V (As := [.ref b, .int tx, .int ty]) (rest := []) hx hb hml hown hG (c_X5_keepSolution l D cy a (upd (upd (upd (upd (upd t 0 (t 0 + 1)) 1 ep) 2 (z 5)) 9 (z 10)) 10 al) b z lc lb bs hba tx ty) cf_X5_keepSolution wM_X5_52 hP rfl ⟨hP, hO_b⟩ ⟨rfl, rfl, by decide, by decide⟩ rfl rfl (Nat.le_of_ble_eq_true rfl) ⟨Nat.le_of_ble_eq_true rfl, Nat.le_of_ble_eq_true rfl⟩ dX5_keepAll_61) hS (fun _ h => h) (fun H1 locs hp1 z1 oq1 hS => ?_)
      have hP : va_P D vwCl [(a, .inr (5, trF (tKS (upd (upd (upd (upd (upd t 0 (t 0 + 1)) 1 ep) 2 (z 5)) 9 (z 10)) 10 al) z lc tx ty)))] H1 := hp1
      exact ke_uv hx hb hr hlk hS dX5_keepAll_64 (by have e9 : tKA t ep z lc al tx ty = (tKS (upd (upd (upd (upd (upd t 0 (t 0 + 1)) 1 ep) 2 (z 5)) 9 (z 10)) 10 al) z lc tx ty) := (by first | rfl | (try delta tKA; try delta tKA1; simp only [if_pos c_40, if_neg c_52, bI_true, bI_false])); rw [e9]; exact hP)
  · refine lv_aload_n hx hb dX5_keepAll_43 rfl (lv_at hl 0 rfl) ?_
    refine lv_iload_n hx hb dX5_keepAll_44 rfl (lv_at hl 1 rfl) ?_
    refine k_put (ci := 5) (C := RX5) (T := TX5) (N := 13) (v := .int ep) hx hb hown hG rfl kin_X5 tyX5 tyX5_ok nmX5 hP hS rfl 12 (by decide) wF_X5_18 rfl rfl rfl (Nat.le_of_ble_eq_true rfl) dX5_keepAll_45 (fun H1 locs hP1 z1 oq1 hS => ?_)
    have hP : va_P D vwCl [(a, .inr (5, trF (upd (upd (upd (upd (upd (upd t 0 (t 0 + 1)) 1 ep) 2 (z 5)) 9 (z 10)) 10 al) 12 ep)))] H1 := hP1
    have hO_b := kP_keep hO_b oq1 hba
    refine lv_aload_n hx hb dX5_keepAll_48 rfl (lv_at hl 2 rfl) ?_
    refine kc_i (kr_VN (As := []) (rest := []) hx hb hml hown hG (c_X2_hasSolution l D cy b z lc lb bs) cf_X2_hasSolution wMN_X5_48 hO_b rfl hO_b ⟨rfl, rfl, by decide, by decide⟩ rfl rfl (Nat.le_of_ble_eq_true rfl) ⟨Nat.le_of_ble_eq_true rfl, Nat.le_of_ble_eq_true rfl⟩ dX5_keepAll_49) ?_
    refine lv_if_eq (tgt := 64) hx hb dX5_keepAll_52 (by decide) (fun c_52 => ?_) (fun c_52 => ?_)
    · exact ke_uv hx hb hr hlk hS dX5_keepAll_64 (by have e9 : tKA t ep z lc al tx ty = (upd (upd (upd (upd (upd (upd t 0 (t 0 + 1)) 1 ep) 2 (z 5)) 9 (z 10)) 10 al) 12 ep) := (by first | rfl | (try delta tKA; try delta tKA1; simp only [if_neg c_40, if_pos c_52, bI_true, bI_false])); rw [e9]; exact hP)
    · refine lv_aload_n hx hb dX5_keepAll_55 rfl (lv_at hl 0 rfl) ?_
      refine lv_aload_n hx hb dX5_keepAll_56 rfl (lv_at hl 2 rfl) ?_
      refine lv_iload hx hb dX5_keepAll_57 (lv_at hl 4 rfl) ?_
      refine lv_iload hx hb dX5_keepAll_59 (lv_at hl 5 rfl) ?_
      refine kc_uv (kr_V (As := [.ref b, .int tx, .int ty]) (rest := []) hx hb hml hown hG (c_X5_keepSolution l D cy a (upd (upd (upd (upd (upd (upd t 0 (t 0 + 1)) 1 ep) 2 (z 5)) 9 (z 10)) 10 al) 12 ep) b z lc lb bs hba tx ty) cf_X5_keepSolution wM_X5_52 hP rfl ⟨hP, hO_b⟩ ⟨rfl, rfl, by decide, by decide⟩ rfl rfl (Nat.le_of_ble_eq_true rfl) ⟨Nat.le_of_ble_eq_true rfl, Nat.le_of_ble_eq_true rfl⟩ dX5_keepAll_61) hS (fun _ h => h) (fun H1 locs hp1 z1 oq1 hS => ?_)
      have hP : va_P D vwCl [(a, .inr (5, trF (tKS (upd (upd (upd (upd (upd (upd t 0 (t 0 + 1)) 1 ep) 2 (z 5)) 9 (z 10)) 10 al) 12 ep) z lc tx ty)))] H1 := hp1
      exact ke_uv hx hb hr hlk hS dX5_keepAll_64 (by have e9 : tKA t ep z lc al tx ty = (tKS (upd (upd (upd (upd (upd (upd t 0 (t 0 + 1)) 1 ep) 2 (z 5)) 9 (z 10)) 10 al) 12 ep) z lc tx ty) := (by first | rfl | (try delta tKA; try delta tKA1; simp only [if_neg c_40, if_neg c_52, bI_true, bI_false])); rw [e9]; exact hP)
