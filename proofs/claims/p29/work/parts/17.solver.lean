set_option maxHeartbeats 4000000 in
set_option maxRecDepth 100000 in
theorem c_X2_clear (l : Launch) (D : va_G) (cy : Nat → ClassId) (a : Nat) (b : Nat → Nat) (hd : SVd a b) (z : Nat → Int32) (lc : Int64) (lb : Int64) (F : Nat → Nat → Int32) : Met l yX2_clear [.code yX2_clear cX2_clear 1 none] ({ frames := 0, cells := 0, slots := 0, locals := 0 } : Room) (PC D cy [.ref a] (fun H => SW D cy a b z lc lb F H)) (UQv (SVA a b) (fun H => SW D cy a b (upd z 5 (nI 0)) lc lb F H)) 0 0 (SVA a b) := by
  refine k_body (by decide +kernel) (Nat.le_of_ble_eq_true rfl) ?_
  intro p e s m below meth c ls hx hb hml hown hr hlk hmn hl hG hI
  have hml9 : c.maxLocals = 1 := hml.trans hl.1
  have hl : lv_has ls 1 [(0, .ref a)] := hl
  have hS : va_S (SVA a b) s.heap s.heap [] := va_S.rf
  refine lv_aload_n hx hb dX2_clear_0 rfl (lv_at hl 0 rfl) ?_
  refine lv_iconst (v := 0) hx hb dX2_clear_1 (by decide) ?_
  refine k_put (ci := 2) (C := RX2) (T := TX2) (N := 15) (v := .int 0) hx hb hown hG rfl kin_X2 tyX2 tyX2_ok nmX2 hI.1 hS SVA.a 5 (by decide) wF_X2_27 rfl rfl rfl (Nat.le_of_ble_eq_true rfl) dX2_clear_2 (fun H1 locs hP1 z1 oq1 hS => ?_)
  have hw : SW D cy a b (upd z 5 0) lc lb F H1 := SW.setO hd hI hP1 oq1
  exact ke_uv hx hb hr hlk hS dX2_clear_5 ⟨hw.1, hw.2⟩
set_option maxHeartbeats 4000000 in
set_option maxRecDepth 100000 in
theorem c_X2_use (l : Launch) (D : va_G) (cy : Nat → ClassId) (a : Nat) (b : Nat → Nat) (hd : SVd a b) (z : Nat → Int32) (lc : Int64) (lb : Int64) (F : Nat → Nat → Int32) (n : Nat) (hn : n < 8) (x y ps w : Int32) : Met l yX2_use [.code yX2_use cX2_use 5 none] ({ frames := 0, cells := 0, slots := 0, locals := 0 } : Room) (PC D cy [.ref a, .int x, .int y, .int ps, .int w] (fun H => SW D cy a b (upd z 5 (nI n)) lc lb F H)) (UQv (SVA a b) (fun H => SW D cy a b (upd z 5 (nI (n + 1))) lc lb (fset (fset (fset (fset F 0 n x) 1 n y) 2 n ps) 3 n w) H)) 0 0 (SVA a b) := by
  refine k_body (by decide +kernel) (Nat.le_of_ble_eq_true rfl) ?_
  intro p e s m below meth c ls hx hb hml hown hr hlk hmn hl hG hI
  have hml9 : c.maxLocals = 5 := hml.trans hl.1
  have hl : lv_has ls 5 [(0, .ref a), (1, .int x), (2, .int y), (3, .int ps), (4, .int w)] := hl
  have hS : va_S (SVA a b) s.heap s.heap [] := va_S.rf
  refine lv_aload_n hx hb dX2_use_0 rfl (lv_at hl 0 rfl) ?_
  refine k_get (ci := 2) (C := RX2) (T := TX2) (N := 15) (v := .int (nI n)) hx hb hown hG rfl kin_X2 hI.1 5 (by decide) wF_X2_27 rfl dX2_use_1 ?_
  refine lv_bipush (v := 8) hx hb dX2_use_4 (by decide) ?_
  refine lv_icmp_lt (tgt := 10) hx hb dX2_use_6 (by decide) (fun _ => ?_) (fun q9 => absurd (nI_lt hn (by decide)) q9)
  refine lv_aload_n hx hb dX2_use_10 rfl (lv_at hl 0 rfl) ?_
  refine k_get (ci := 2) (C := RX2) (T := TX2) (N := 15) (v := .ref (b 0)) hx hb hown hG rfl kin_X2 hI.1 0 (by decide) wF_X2_9 rfl dX2_use_11 ?_
  refine lv_aload_n hx hb dX2_use_14 rfl (lv_at hl 0 rfl) ?_
  refine k_get (ci := 2) (C := RX2) (T := TX2) (N := 15) (v := .int (nI n)) hx hb hown hG rfl kin_X2 hI.1 5 (by decide) wF_X2_27 rfl dX2_use_15 ?_
  refine lv_iload_n hx hb dX2_use_18 rfl (lv_at hl 1 rfl) ?_
  refine k_iast hx hb hG (hI.2 0 (by decide)) hS (SVA.b (i := 0) (by decide)) (vp_in_nI (show n < 8 by omega) (by decide)) dX2_use_19 (fun H1 locs hP1 z1 oq1 hS => ?_)
  have hw : SW D cy a b (upd z 5 (nI n)) lc lb (fset F 0 n x) H1 := SW.setA hd hI (i := 0) (by decide) (show n < 8 by omega) hP1 oq1
  refine lv_aload_n hx hb dX2_use_20 rfl (lv_at hl 0 rfl) ?_
  refine k_get (ci := 2) (C := RX2) (T := TX2) (N := 15) (v := .ref (b 1)) hx hb hown hG rfl kin_X2 hw.1 1 (by decide) wF_X2_15 rfl dX2_use_21 ?_
  refine lv_aload_n hx hb dX2_use_24 rfl (lv_at hl 0 rfl) ?_
  refine k_get (ci := 2) (C := RX2) (T := TX2) (N := 15) (v := .int (nI n)) hx hb hown hG rfl kin_X2 hw.1 5 (by decide) wF_X2_27 rfl dX2_use_25 ?_
  refine lv_iload_n hx hb dX2_use_28 rfl (lv_at hl 2 rfl) ?_
  refine k_iast hx hb hG (hw.2 1 (by decide)) hS (SVA.b (i := 1) (by decide)) (vp_in_nI (show n < 8 by omega) (by decide)) dX2_use_29 (fun H1 locs hP1 z1 oq1 hS => ?_)
  have hw : SW D cy a b (upd z 5 (nI n)) lc lb (fset (fset F 0 n x) 1 n y) H1 := SW.setA hd hw (i := 1) (by decide) (show n < 8 by omega) hP1 oq1
  refine lv_aload_n hx hb dX2_use_30 rfl (lv_at hl 0 rfl) ?_
  refine k_get (ci := 2) (C := RX2) (T := TX2) (N := 15) (v := .ref (b 2)) hx hb hown hG rfl kin_X2 hw.1 2 (by decide) wF_X2_18 rfl dX2_use_31 ?_
  refine lv_aload_n hx hb dX2_use_34 rfl (lv_at hl 0 rfl) ?_
  refine k_get (ci := 2) (C := RX2) (T := TX2) (N := 15) (v := .int (nI n)) hx hb hown hG rfl kin_X2 hw.1 5 (by decide) wF_X2_27 rfl dX2_use_35 ?_
  refine lv_iload_n hx hb dX2_use_38 rfl (lv_at hl 3 rfl) ?_
  refine k_iast hx hb hG (hw.2 2 (by decide)) hS (SVA.b (i := 2) (by decide)) (vp_in_nI (show n < 8 by omega) (by decide)) dX2_use_39 (fun H1 locs hP1 z1 oq1 hS => ?_)
  have hw : SW D cy a b (upd z 5 (nI n)) lc lb (fset (fset (fset F 0 n x) 1 n y) 2 n ps) H1 := SW.setA hd hw (i := 2) (by decide) (show n < 8 by omega) hP1 oq1
  refine lv_aload_n hx hb dX2_use_40 rfl (lv_at hl 0 rfl) ?_
  refine k_get (ci := 2) (C := RX2) (T := TX2) (N := 15) (v := .ref (b 3)) hx hb hown hG rfl kin_X2 hw.1 3 (by decide) wF_X2_21 rfl dX2_use_41 ?_
  refine lv_aload_n hx hb dX2_use_44 rfl (lv_at hl 0 rfl) ?_
  refine k_get (ci := 2) (C := RX2) (T := TX2) (N := 15) (v := .int (nI n)) hx hb hown hG rfl kin_X2 hw.1 5 (by decide) wF_X2_27 rfl dX2_use_45 ?_
  refine lv_iload hx hb dX2_use_48 (lv_at hl 4 rfl) ?_
  refine k_iast hx hb hG (hw.2 3 (by decide)) hS (SVA.b (i := 3) (by decide)) (vp_in_nI (show n < 8 by omega) (by decide)) dX2_use_50 (fun H1 locs hP1 z1 oq1 hS => ?_)
  have hw : SW D cy a b (upd z 5 (nI n)) lc lb (fset (fset (fset (fset F 0 n x) 1 n y) 2 n ps) 3 n w) H1 := SW.setA hd hw (i := 3) (by decide) (show n < 8 by omega) hP1 oq1
  refine lv_aload_n hx hb dX2_use_51 rfl (lv_at hl 0 rfl) ?_
  refine lv_dup hx hb dX2_use_52 rfl ?_
  refine k_get (ci := 2) (C := RX2) (T := TX2) (N := 15) (v := .int (nI n)) hx hb hown hG rfl kin_X2 hw.1 5 (by decide) wF_X2_27 rfl dX2_use_53 ?_
  refine lv_iconst (v := 1) hx hb dX2_use_56 (by decide) ?_
  refine lv_iadd hx hb dX2_use_57 ?_
  refine k_put (ci := 2) (C := RX2) (T := TX2) (N := 15) (v := .int ((nI n) + 1)) hx hb hown hG rfl kin_X2 tyX2 tyX2_ok nmX2 hw.1 hS SVA.a 5 (by decide) wF_X2_27 rfl rfl rfl (Nat.le_of_ble_eq_true rfl) dX2_use_58 (fun H1 locs hP1 z1 oq1 hS => ?_)
  have hw : SW D cy a b (upd (upd z 5 (nI n)) 5 ((nI n) + 1)) lc lb (fset (fset (fset (fset F 0 n x) 1 n y) 2 n ps) 3 n w) H1 := SW.setO hd hw hP1 oq1
  exact ke_uv hx hb hr hlk hS dX2_use_61 ⟨by rw [nI_succ]; exact hw.1, hw.2⟩
set_option maxHeartbeats 4000000 in
set_option maxRecDepth 100000 in
theorem c_X2_costBy (l : Launch) (D : va_G) (cy : Nat → ClassId) (a : Nat) (b : Nat → Nat) (hd : SVd a b) (z : Nat → Int32) (lc : Int64) (n : Nat) (hn : n ≤ 8) (B : Bst) (F : Nat → Nat → Int32) (t lo : Int32) : Met l yX2_costBy [.code yX2_costBy cX2_costBy 8 (some .long)] ({ frames := 0, cells := 0, slots := 0, locals := 0 } : Room) (PC D cy [.ref a, .int t, .int lo] (fun H => SW D cy a b (zN z n B) lc B.2.2.2 F H)) (RQl (pCs (F 4) (F 3) t lo n)) 0 0 (fun _ => False) := by
  refine k_body (by decide +kernel) (Nat.le_of_ble_eq_true rfl) ?_
  intro p e s m below meth c ls hx hb hml hown hr hlk hmn hl hG hI
  have hml9 : c.maxLocals = 8 := hml.trans hl.1
  have hl : lv_has ls 8 [(0, .ref a), (1, .int t), (2, .int lo)] := hl
  refine lv_lconst (v := 0) hx hb dX2_costBy_0 (by decide) ?_
  refine lv_lstore_n (lv' := [(3, .long 0), (0, .ref a), (1, .int t), (2, .int lo)]) hx hb dX2_costBy_1 rfl hl (by decide) rfl (fun ls hl => ?_)
  have hml : c.maxLocals = ls.size := hml9.trans hl.1.symm
  refine lv_iconst (v := 0) hx hb dX2_costBy_2 (by decide) ?_
  refine lv_istore (lv' := [(5, .int 0), (3, .long 0), (0, .ref a), (1, .int t), (2, .int lo)]) hx hb dX2_costBy_3 hl (by decide) rfl (fun ls hl => ?_)
  have hml : c.maxLocals = ls.size := hml9.trans hl.1.symm
  have lp5_1 : ∀ (n9 : Nat) (i : Nat) (acc : Int64), n + 1 - i ≤ n9 → i ≤ n → acc = pCs (F 4) (F 3) t lo i →  ∀ ls : Array Slot, lv_has ls 8 [(5, .int (nI i)), (3, .long acc), (0, .ref a), (1, .int t), (2, .int lo)] → W p l e ({ frames := 0, cells := 0, slots := 0, locals := 0 } : Room) s m ([.ref a, .int t, .int lo] : List Value).toArray below meth c s.heap [] 0 0 (MQ below (RQl (pCs (F 4) (F 3) t lo n)) ([.ref a, .int t, .int lo] : List Value).toArray s 0 0 (fun _ => False)) (F0 m 5 ls []) := by
    intro n9
    induction n9 with
    | zero =>
      intro i acc h9
      intro hi; exact absurd h9 (by omega)
    | succ n9 ih9 =>
      intro i acc hn9 hi ea ls hl
      have hml : c.maxLocals = ls.size := hml9.trans hl.1.symm
      refine lv_iload hx hb dX2_costBy_5 (lv_at hl 0 rfl) ?_
      refine lv_aload_n hx hb dX2_costBy_7 rfl (lv_at hl 2 rfl) ?_
      refine k_get (ci := 2) (C := RX2) (T := TX2) (N := 15) (v := .int (nI n)) hx hb hown hG rfl kin_X2 hI.1 5 (by decide) wF_X2_27 rfl dX2_costBy_8 ?_
      refine lv_icmp_ge (tgt := 55) hx hb dX2_costBy_11 (by decide) (fun c_11 => ?_) (fun c_11 => ?_)
      · have en : i = n := Nat.le_antisymm hi ((nI_leI (by omega) (by omega)).mp c_11)
        refine lv_lload_n hx hb dX2_costBy_55 rfl (lv_at hl 1 rfl) ?_
        exact ke_l hx hb hr hlk dX2_costBy_56 (by rw [ea, en])
      · have hlt : i < n := by
          rcases Nat.lt_or_ge i n with q | q
          · exact q
          · exact absurd (nI_le q (by omega)) c_11
        refine lv_iload hx hb dX2_costBy_14 (lv_at hl 0 rfl) ?_
        refine lv_iload_n hx hb dX2_costBy_16 rfl (lv_at hl 4 rfl) ?_
        refine lv_icmp_eq (tgt := 49) hx hb dX2_costBy_17 (by decide) (fun c_17 => ?_) (fun c_17 => ?_)
        · refine lv_iinc (v := (nI (i + 1))) (lv' := [(5, .int (nI (i + 1))), (3, .long acc), (0, .ref a), (1, .int t), (2, .int lo)]) hx hb dX2_costBy_49 hl (k := 0) rfl ((nI_succ i).symm) (by decide) rfl (fun ls hl => ?_)
          have hml : c.maxLocals = ls.size := hml9.trans hl.1.symm
          refine lv_goto (tgt := 5) hx hb dX2_costBy_52 (by decide) ?_
          exact ih9 (i + 1) acc (by omega) hlt (by rw [ea]; exact (if_pos c_17).symm) ls (lv_sub hl [0, 1, 2, 3, 4] rfl)
        · refine lv_aload_n hx hb dX2_costBy_20 rfl (lv_at hl 2 rfl) ?_
          refine k_get (ci := 2) (C := RX2) (T := TX2) (N := 15) (v := .ref (b 4)) hx hb hown hG rfl kin_X2 hI.1 4 (by decide) wF_X2_24 rfl dX2_costBy_21 ?_
          refine lv_iload hx hb dX2_costBy_24 (lv_at hl 0 rfl) ?_
          refine k_iald (v := (F 4 i)) hx hb hG (hI.2 4 (by decide)) (vp_in_nI (show i < 8 by omega) (by decide)) (congrArg (F 4) (nI_clamp (by omega))) dX2_costBy_26 ?_
          refine lv_iload_n hx hb dX2_costBy_27 rfl (lv_at hl 3 rfl) ?_
          refine lv_isub hx hb dX2_costBy_28 ?_
          refine lv_i2l (v := ((F 4 i) - t).toInt64) hx hb dX2_costBy_29 rfl ?_
          refine lv_lstore (lv' := [(6, .long (((F 4 i) - t).toInt64)), (5, .int (nI i)), (3, .long acc), (0, .ref a), (1, .int t), (2, .int lo)]) hx hb dX2_costBy_30 hl (by decide) rfl (fun ls hl => ?_)
          have hml : c.maxLocals = ls.size := hml9.trans hl.1.symm
          refine lv_lload_n hx hb dX2_costBy_32 rfl (lv_at hl 2 rfl) ?_
          refine lv_aload_n hx hb dX2_costBy_33 rfl (lv_at hl 3 rfl) ?_
          refine k_get (ci := 2) (C := RX2) (T := TX2) (N := 15) (v := .ref (b 3)) hx hb hown hG rfl kin_X2 hI.1 3 (by decide) wF_X2_21 rfl dX2_costBy_34 ?_
          refine lv_iload hx hb dX2_costBy_37 (lv_at hl 1 rfl) ?_
          refine k_iald (v := (F 3 i)) hx hb hG (hI.2 3 (by decide)) (vp_in_nI (show i < 8 by omega) (by decide)) (congrArg (F 3) (nI_clamp (by omega))) dX2_costBy_39 ?_
          refine lv_i2l (v := (F 3 i).toInt64) hx hb dX2_costBy_40 rfl ?_
          refine lv_lload hx hb dX2_costBy_41 (lv_at hl 0 rfl) ?_
          refine lv_lmul hx hb dX2_costBy_43 ?_
          refine lv_lload hx hb dX2_costBy_44 (lv_at hl 0 rfl) ?_
          refine lv_lmul hx hb dX2_costBy_46 ?_
          refine lv_ladd hx hb dX2_costBy_47 ?_
          refine lv_lstore_n (lv' := [(3, .long (acc + (((F 3 i).toInt64 * ((F 4 i) - t).toInt64) * ((F 4 i) - t).toInt64))), (6, .long (((F 4 i) - t).toInt64)), (5, .int (nI i)), (0, .ref a), (1, .int t), (2, .int lo)]) hx hb dX2_costBy_48 rfl hl (by decide) rfl (fun ls hl => ?_)
          have hml : c.maxLocals = ls.size := hml9.trans hl.1.symm
          refine lv_iinc (v := (nI (i + 1))) (lv' := [(5, .int (nI (i + 1))), (3, .long (acc + (((F 3 i).toInt64 * ((F 4 i) - t).toInt64) * ((F 4 i) - t).toInt64))), (6, .long (((F 4 i) - t).toInt64)), (0, .ref a), (1, .int t), (2, .int lo)]) hx hb dX2_costBy_49 hl (k := 2) rfl ((nI_succ i).symm) (by decide) rfl (fun ls hl => ?_)
          have hml : c.maxLocals = ls.size := hml9.trans hl.1.symm
          refine lv_goto (tgt := 5) hx hb dX2_costBy_52 (by decide) ?_
          exact ih9 (i + 1) (acc + (((F 3 i).toInt64 * ((F 4 i) - t).toInt64) * ((F 4 i) - t).toInt64)) (by omega) hlt (by rw [ea]; exact (if_neg c_17).symm) ls (lv_sub hl [0, 1, 3, 4, 5] rfl)
  exact lp5_1 (n + 1) 0 0 (Nat.le_refl _) (Nat.zero_le _) rfl ls (lv_sub hl [0, 1, 2, 3, 4] rfl)
set_option maxHeartbeats 4000000 in
set_option maxRecDepth 100000 in
theorem c_X2_tryPlace (l : Launch) (D : va_G) (cy : Nat → ClassId) (a : Nat) (b : Nat → Nat) (hd : SVd a b) (z : Nat → Int32) (lc : Int64) (n : Nat) (hn : n ≤ 8) (B : Bst) (F G0 : Nat → Nat → Int32) (h0 : ∀ j, j < 4 → G0 j = F j) (px py lo : Int32) : Met l yX2_tryPlace [.code yX2_tryPlace cX2_tryPlace 9 none] ({ frames := 2, cells := 0, slots := 0, locals := 46 } : Room) (PC D cy [.ref a, .int px, .int py, .int lo] (fun H => SW D cy a b (zN z n B) lc B.2.2.2 G0 H)) (UQv (SVA a b) (fun H => ∃ G : Nat → Nat → Int32, (∀ j, j < 4 → G j = F j) ∧ SW D cy a b (zN z n (pTry F n lo px py B)) lc ((pTry F n lo px py B).2.2.2) G H)) 0 0 (SVA a b) := by
  refine k_body (by decide +kernel) (Nat.le_of_ble_eq_true rfl) ?_
  intro p e s m below meth c ls hx hb hml hown hr hlk hmn hl hG hI
  have hml9 : c.maxLocals = 9 := hml.trans hl.1
  have hl : lv_has ls 9 [(0, .ref a), (1, .int px), (2, .int py), (3, .int lo)] := hl
  have hS : va_S (SVA a b) s.heap s.heap [] := va_S.rf
  refine lv_iconst (v := 0) hx hb dX2_tryPlace_0 (by decide) ?_
  refine lv_istore (lv' := [(4, .int 0), (0, .ref a), (1, .int px), (2, .int py), (3, .int lo)]) hx hb dX2_tryPlace_1 hl (by decide) rfl (fun ls hl => ?_)
  have hml : c.maxLocals = ls.size := hml9.trans hl.1.symm
  refine lv_iconst (v := 0) hx hb dX2_tryPlace_3 (by decide) ?_
  refine lv_istore (lv' := [(5, .int 0), (4, .int 0), (0, .ref a), (1, .int px), (2, .int py), (3, .int lo)]) hx hb dX2_tryPlace_4 hl (by decide) rfl (fun ls hl => ?_)
  have hml : c.maxLocals = ls.size := hml9.trans hl.1.symm
  refine lv_iconst (v := 0) hx hb dX2_tryPlace_6 (by decide) ?_
  refine lv_istore (lv' := [(6, .int 0), (5, .int 0), (4, .int 0), (0, .ref a), (1, .int px), (2, .int py), (3, .int lo)]) hx hb dX2_tryPlace_7 hl (by decide) rfl (fun ls hl => ?_)
  have hml : c.maxLocals = ls.size := hml9.trans hl.1.symm
  have lp9_1 : ∀ (n9 : Nat) (i : Nat) (su wt : Int32) (G : Nat → Nat → Int32) (H : Heap) (locs : List Loc), n + 1 - i ≤ n9 → i ≤ n → su = pSum F px py lo i → wt = pWt F lo i → (∀ j, j < 4 → G j = F j) → (∀ j, j < i → G 4 j = pOv F px py j) → SW D cy a b (zN z n B) lc B.2.2.2 G H → va_S (SVA a b) s.heap H locs →  ∀ ls : Array Slot, lv_has ls 9 [(6, .int (nI i)), (5, .int wt), (4, .int su), (0, .ref a), (1, .int px), (2, .int py), (3, .int lo)] → W p l e ({ frames := 2, cells := 0, slots := 0, locals := 46 } : Room) s m ([.ref a, .int px, .int py, .int lo] : List Value).toArray below meth c H locs 0 0 (MQ below (UQv (SVA a b) (fun H => ∃ G : Nat → Nat → Int32, (∀ j, j < 4 → G j = F j) ∧ SW D cy a b (zN z n (pTry F n lo px py B)) lc ((pTry F n lo px py B).2.2.2) G H)) ([.ref a, .int px, .int py, .int lo] : List Value).toArray s 0 0 (SVA a b)) (F0 m 9 ls []) := by
    intro n9
    induction n9 with
    | zero =>
      intro i su wt G H locs h9
      intro hi; exact absurd h9 (by omega)
    | succ n9 ih9 =>
      intro i su wt G H locs hn9 hi es ew hG4 hGo hw hS ls hl
      have hml : c.maxLocals = ls.size := hml9.trans hl.1.symm
      refine lv_iload hx hb dX2_tryPlace_9 (lv_at hl 0 rfl) ?_
      refine lv_aload_n hx hb dX2_tryPlace_11 rfl (lv_at hl 3 rfl) ?_
      refine k_get (ci := 2) (C := RX2) (T := TX2) (N := 15) (v := .int (nI n)) hx hb hown hG rfl kin_X2 hw.1 5 (by decide) wF_X2_27 rfl dX2_tryPlace_12 ?_
      refine lv_icmp_ge (tgt := 96) hx hb dX2_tryPlace_15 (by decide) (fun c_15 => ?_) (fun c_15 => ?_)
      · have en : i = n := Nat.le_antisymm hi ((nI_leI (by omega) (by omega)).mp c_15)
        have jn112_2 : ∀ (tm : Int32), tm = pTm F px py lo n → ∀ ls : Array Slot, lv_has ls 9 [(6, .int (nI i)), (5, .int wt), (4, .int su), (0, .ref a), (1, .int px), (2, .int py), (3, .int lo)] → W p l e ({ frames := 2, cells := 0, slots := 0, locals := 46 } : Room) s m ([.ref a, .int px, .int py, .int lo] : List Value).toArray below meth c H locs 0 0 (MQ below (UQv (SVA a b) (fun H => ∃ G : Nat → Nat → Int32, (∀ j, j < 4 → G j = F j) ∧ SW D cy a b (zN z n (pTry F n lo px py B)) lc ((pTry F n lo px py B).2.2.2) G H)) ([.ref a, .int px, .int py, .int lo] : List Value).toArray s 0 0 (SVA a b)) (F0 m 112 ls [.int tm]) := by
          intro tm et ls hl
          have hml : c.maxLocals = ls.size := hml9.trans hl.1.symm
          refine lv_istore (lv' := [(6, .int tm), (5, .int wt), (4, .int su), (0, .ref a), (1, .int px), (2, .int py), (3, .int lo)]) hx hb dX2_tryPlace_112 hl (by decide) rfl (fun ls hl => ?_)
          have hml : c.maxLocals = ls.size := hml9.trans hl.1.symm
          refine lv_aload_n hx hb dX2_tryPlace_114 rfl (lv_at hl 3 rfl) ?_
          refine lv_iload hx hb dX2_tryPlace_115 (lv_at hl 0 rfl) ?_
          refine lv_iload_n hx hb dX2_tryPlace_117 rfl (lv_at hl 6 rfl) ?_
          refine kc_l (kr_V (As := [.int tm, .int lo]) (rest := []) hx hb hml hown hG (c_X2_costBy l D cy a b hd z lc n hn B G tm lo) cf_X2_costBy wM_X2_86 hw.1 rfl hw ⟨rfl, rfl, by decide, by decide⟩ rfl rfl (Nat.le_of_ble_eq_true rfl) ⟨Nat.le_of_ble_eq_true rfl, Nat.le_of_ble_eq_true rfl⟩ dX2_tryPlace_118) ?_
          refine lv_lstore (lv' := [(7, .long (pCs (G 4) (G 3) tm lo n)), (6, .int tm), (5, .int wt), (4, .int su), (0, .ref a), (1, .int px), (2, .int py), (3, .int lo)]) hx hb dX2_tryPlace_121 hl (by decide) rfl (fun ls hl => ?_)
          have hml : c.maxLocals = ls.size := hml9.trans hl.1.symm
          have ec : pCs (G 4) (G 3) tm lo n = pCs (pOv F px py) (F 3) (pTm F px py lo n) lo n := by rw [hG4 3 (by decide), et]; exact pCs_congr n (fun j hj => hGo j (by omega))
          refine lv_aload_n hx hb dX2_tryPlace_123 rfl (lv_at hl 4 rfl) ?_
          refine k_get (ci := 2) (C := RX2) (T := TX2) (N := 15) (v := .long B.2.2.2) hx hb hown hG rfl kin_X2 hw.1 14 (by decide) wF_X2_60 rfl dX2_tryPlace_124 ?_
          refine lv_ldc2 hx hb hown (hG.w wK_X2_77 rfl) dX2_tryPlace_127 ?_
          refine W.lcmp hx hb dX2_tryPlace_130 ?_
          refine lv_if_eq (tgt := 144) hx hb dX2_tryPlace_131 (by decide) (fun c_131 => ?_) (fun c_131 => ?_)
          · refine lv_aload_n hx hb dX2_tryPlace_144 rfl (lv_at hl 4 rfl) ?_
            refine lv_iload_n hx hb dX2_tryPlace_145 rfl (lv_at hl 5 rfl) ?_
            refine k_put (ci := 2) (C := RX2) (T := TX2) (N := 15) (v := .int px) hx hb hown hG rfl kin_X2 tyX2 tyX2_ok nmX2 hw.1 hS SVA.a 11 (by decide) wF_X2_42 rfl rfl rfl (Nat.le_of_ble_eq_true rfl) dX2_tryPlace_146 (fun H1 locs hP1 z1 oq1 hS => ?_)
            have hw : SW D cy a b (upd (zN z n B) 11 px) lc B.2.2.2 G H1 := SW.setO hd hw hP1 oq1
            refine lv_aload_n hx hb dX2_tryPlace_149 rfl (lv_at hl 4 rfl) ?_
            refine lv_iload_n hx hb dX2_tryPlace_150 rfl (lv_at hl 6 rfl) ?_
            refine k_put (ci := 2) (C := RX2) (T := TX2) (N := 15) (v := .int py) hx hb hown hG rfl kin_X2 tyX2 tyX2_ok nmX2 hw.1 hS SVA.a 12 (by decide) wF_X2_48 rfl rfl rfl (Nat.le_of_ble_eq_true rfl) dX2_tryPlace_151 (fun H1 locs hP1 z1 oq1 hS => ?_)
            have hw : SW D cy a b (upd (upd (zN z n B) 11 px) 12 py) lc B.2.2.2 G H1 := SW.setO hd hw hP1 oq1
            refine lv_aload_n hx hb dX2_tryPlace_154 rfl (lv_at hl 4 rfl) ?_
            refine lv_iload hx hb dX2_tryPlace_155 (lv_at hl 1 rfl) ?_
            refine k_put (ci := 2) (C := RX2) (T := TX2) (N := 15) (v := .int tm) hx hb hown hG rfl kin_X2 tyX2 tyX2_ok nmX2 hw.1 hS SVA.a 13 (by decide) wF_X2_54 rfl rfl rfl (Nat.le_of_ble_eq_true rfl) dX2_tryPlace_157 (fun H1 locs hP1 z1 oq1 hS => ?_)
            have hw : SW D cy a b (upd (upd (upd (zN z n B) 11 px) 12 py) 13 tm) lc B.2.2.2 G H1 := SW.setO hd hw hP1 oq1
            refine lv_aload_n hx hb dX2_tryPlace_160 rfl (lv_at hl 4 rfl) ?_
            refine lv_lload hx hb dX2_tryPlace_161 (lv_at hl 0 rfl) ?_
            refine k_put (ci := 2) (C := RX2) (T := TX2) (N := 15) (v := .long (pCs (G 4) (G 3) tm lo n)) hx hb hown hG rfl kin_X2 tyX2 tyX2_ok nmX2 hw.1 hS SVA.a 14 (by decide) wF_X2_60 rfl rfl rfl (Nat.le_of_ble_eq_true rfl) dX2_tryPlace_163 (fun H1 locs hP1 z1 oq1 hS => ?_)
            have hw : SW D cy a b (upd (upd (upd (zN z n B) 11 px) 12 py) 13 tm) lc (pCs (G 4) (G 3) tm lo n) G H1 := SW.setO hd hw hP1 oq1
            exact ke_uv hx hb hr hlk hS dX2_tryPlace_166 ⟨G, hG4, by have e9 : pTry F n lo px py B = (px, py, tm, pCs (G 4) (G 3) tm lo n) := (by unfold pTry; rw [← ec, ← et]; exact if_pos ((isM1_iff _).mpr ((lg_cmp_eq _ _).mp c_131))); rw [e9]; exact ⟨hw.1, hw.2⟩⟩
          · refine lv_lload hx hb dX2_tryPlace_134 (lv_at hl 0 rfl) ?_
            refine lv_aload_n hx hb dX2_tryPlace_136 rfl (lv_at hl 4 rfl) ?_
            refine k_get (ci := 2) (C := RX2) (T := TX2) (N := 15) (v := .long B.2.2.2) hx hb hown hG rfl kin_X2 hw.1 14 (by decide) wF_X2_60 rfl dX2_tryPlace_137 ?_
            refine W.lcmp hx hb dX2_tryPlace_140 ?_
            refine lv_if_ge (tgt := 166) hx hb dX2_tryPlace_141 (by decide) (fun c_141 => ?_) (fun c_141 => ?_)
            · exact ke_uv hx hb hr hlk hS dX2_tryPlace_166 ⟨G, hG4, by have e9 : pTry F n lo px py B = B := (by unfold pTry; rw [← ec]; exact (if_neg (fun q => c_131 ((lg_cmp_eq _ _).mpr ((isM1_iff _).mp q)))).trans (if_pos c_141)); rw [e9]; exact hw⟩
            · refine lv_aload_n hx hb dX2_tryPlace_144 rfl (lv_at hl 4 rfl) ?_
              refine lv_iload_n hx hb dX2_tryPlace_145 rfl (lv_at hl 5 rfl) ?_
              refine k_put (ci := 2) (C := RX2) (T := TX2) (N := 15) (v := .int px) hx hb hown hG rfl kin_X2 tyX2 tyX2_ok nmX2 hw.1 hS SVA.a 11 (by decide) wF_X2_42 rfl rfl rfl (Nat.le_of_ble_eq_true rfl) dX2_tryPlace_146 (fun H1 locs hP1 z1 oq1 hS => ?_)
              have hw : SW D cy a b (upd (zN z n B) 11 px) lc B.2.2.2 G H1 := SW.setO hd hw hP1 oq1
              refine lv_aload_n hx hb dX2_tryPlace_149 rfl (lv_at hl 4 rfl) ?_
              refine lv_iload_n hx hb dX2_tryPlace_150 rfl (lv_at hl 6 rfl) ?_
              refine k_put (ci := 2) (C := RX2) (T := TX2) (N := 15) (v := .int py) hx hb hown hG rfl kin_X2 tyX2 tyX2_ok nmX2 hw.1 hS SVA.a 12 (by decide) wF_X2_48 rfl rfl rfl (Nat.le_of_ble_eq_true rfl) dX2_tryPlace_151 (fun H1 locs hP1 z1 oq1 hS => ?_)
              have hw : SW D cy a b (upd (upd (zN z n B) 11 px) 12 py) lc B.2.2.2 G H1 := SW.setO hd hw hP1 oq1
              refine lv_aload_n hx hb dX2_tryPlace_154 rfl (lv_at hl 4 rfl) ?_
              refine lv_iload hx hb dX2_tryPlace_155 (lv_at hl 1 rfl) ?_
              refine k_put (ci := 2) (C := RX2) (T := TX2) (N := 15) (v := .int tm) hx hb hown hG rfl kin_X2 tyX2 tyX2_ok nmX2 hw.1 hS SVA.a 13 (by decide) wF_X2_54 rfl rfl rfl (Nat.le_of_ble_eq_true rfl) dX2_tryPlace_157 (fun H1 locs hP1 z1 oq1 hS => ?_)
              have hw : SW D cy a b (upd (upd (upd (zN z n B) 11 px) 12 py) 13 tm) lc B.2.2.2 G H1 := SW.setO hd hw hP1 oq1
              refine lv_aload_n hx hb dX2_tryPlace_160 rfl (lv_at hl 4 rfl) ?_
              refine lv_lload hx hb dX2_tryPlace_161 (lv_at hl 0 rfl) ?_
              refine k_put (ci := 2) (C := RX2) (T := TX2) (N := 15) (v := .long (pCs (G 4) (G 3) tm lo n)) hx hb hown hG rfl kin_X2 tyX2 tyX2_ok nmX2 hw.1 hS SVA.a 14 (by decide) wF_X2_60 rfl rfl rfl (Nat.le_of_ble_eq_true rfl) dX2_tryPlace_163 (fun H1 locs hP1 z1 oq1 hS => ?_)
              have hw : SW D cy a b (upd (upd (upd (zN z n B) 11 px) 12 py) 13 tm) lc (pCs (G 4) (G 3) tm lo n) G H1 := SW.setO hd hw hP1 oq1
              exact ke_uv hx hb hr hlk hS dX2_tryPlace_166 ⟨G, hG4, by have e9 : pTry F n lo px py B = (px, py, tm, pCs (G 4) (G 3) tm lo n) := (by unfold pTry; rw [← ec, ← et]; exact (if_neg (fun q => c_131 ((lg_cmp_eq _ _).mpr ((isM1_iff _).mp q)))).trans (if_neg c_141)); rw [e9]; exact ⟨hw.1, hw.2⟩⟩
        refine lv_iload hx hb dX2_tryPlace_96 (lv_at hl 1 rfl) ?_
        refine lv_if_ne (tgt := 105) hx hb dX2_tryPlace_98 (by decide) (fun c_98 => ?_) (fun c_98 => ?_)
        · refine lv_iload hx hb dX2_tryPlace_105 (lv_at hl 2 rfl) ?_
          refine lv_iload hx hb dX2_tryPlace_107 (lv_at hl 1 rfl) ?_
          refine kc_i (kr_S (As := [.int su, .int wt]) (rest := []) hx hb hml hown hG (c_J9_floorDiv_7cf53 l D cy su wt c_98) cf_J9_floorDiv_7cf53 wM_X2_83 trivial ⟨rfl, rfl, by decide, by decide⟩ rfl rfl (Nat.le_of_ble_eq_true rfl) ⟨Nat.le_of_ble_eq_true rfl, Nat.le_of_ble_eq_true rfl⟩ dX2_tryPlace_109) ?_
          exact jn112_2 (pFDiv su wt) (by unfold pTm; rw [← en, ← ew, ← es]; exact (if_neg c_98).symm) ls (lv_sub hl [0, 1, 2, 3, 4, 5, 6] rfl)
        · refine lv_iconst (v := 0) hx hb dX2_tryPlace_101 (by decide) ?_
          refine lv_goto (tgt := 112) hx hb dX2_tryPlace_102 (by decide) ?_
          exact jn112_2 0 (by unfold pTm; rw [← en, ← ew, ← es]; exact (if_pos c_98).symm) ls (lv_sub hl [0, 1, 2, 3, 4, 5, 6] rfl)
      · have hlt : i < n := by
          rcases Nat.lt_or_ge i n with q | q
          · exact q
          · exact absurd (nI_le q (by omega)) c_15
        refine lv_aload_n hx hb dX2_tryPlace_18 rfl (lv_at hl 3 rfl) ?_
        refine k_get (ci := 2) (C := RX2) (T := TX2) (N := 15) (v := .ref (b 4)) hx hb hown hG rfl kin_X2 hw.1 4 (by decide) wF_X2_24 rfl dX2_tryPlace_19 ?_
        refine lv_iload hx hb dX2_tryPlace_22 (lv_at hl 0 rfl) ?_
        refine lv_aload_n hx hb dX2_tryPlace_24 rfl (lv_at hl 3 rfl) ?_
        refine k_get (ci := 2) (C := RX2) (T := TX2) (N := 15) (v := .ref (b 2)) hx hb hown hG rfl kin_X2 hw.1 2 (by decide) wF_X2_18 rfl dX2_tryPlace_25 ?_
        refine lv_iload hx hb dX2_tryPlace_28 (lv_at hl 0 rfl) ?_
        refine k_iald (v := (F 2 i)) hx hb hG (hw.2 2 (by decide)) (vp_in_nI (show i < 8 by omega) (by decide)) (by rw [nI_clamp (by omega)]; exact congrFun (hG4 2 (by decide)) i) dX2_tryPlace_30 ?_
        refine lv_iload_n hx hb dX2_tryPlace_31 rfl (lv_at hl 4 rfl) ?_
        refine lv_iload_n hx hb dX2_tryPlace_32 rfl (lv_at hl 5 rfl) ?_
        refine lv_aload_n hx hb dX2_tryPlace_33 rfl (lv_at hl 3 rfl) ?_
        refine k_get (ci := 2) (C := RX2) (T := TX2) (N := 15) (v := .ref (b 0)) hx hb hown hG rfl kin_X2 hw.1 0 (by decide) wF_X2_9 rfl dX2_tryPlace_34 ?_
        refine lv_iload hx hb dX2_tryPlace_37 (lv_at hl 0 rfl) ?_
        refine k_iald (v := (F 0 i)) hx hb hG (hw.2 0 (by decide)) (vp_in_nI (show i < 8 by omega) (by decide)) (by rw [nI_clamp (by omega)]; exact congrFun (hG4 0 (by decide)) i) dX2_tryPlace_39 ?_
        refine lv_aload_n hx hb dX2_tryPlace_40 rfl (lv_at hl 3 rfl) ?_
        refine k_get (ci := 2) (C := RX2) (T := TX2) (N := 15) (v := .ref (b 1)) hx hb hown hG rfl kin_X2 hw.1 1 (by decide) wF_X2_15 rfl dX2_tryPlace_41 ?_
        refine lv_iload hx hb dX2_tryPlace_44 (lv_at hl 0 rfl) ?_
        refine k_iald (v := (F 1 i)) hx hb hG (hw.2 1 (by decide)) (vp_in_nI (show i < 8 by omega) (by decide)) (by rw [nI_clamp (by omega)]; exact congrFun (hG4 1 (by decide)) i) dX2_tryPlace_46 ?_
        refine kc_i (kr_SN (As := [.int px, .int py, .int (F 0 i), .int (F 1 i)]) (rest := [.int (F 2 i), .int (nI i), .ref (b 4)]) hx hb hml hown hG (c_X6_rangeOf l D cy px py (F 0 i) (F 1 i)) cf_X6_rangeOf wMN_X2_67 trivial ⟨rfl, rfl, by decide, by decide⟩ rfl rfl (Nat.le_of_ble_eq_true rfl) ⟨Nat.le_of_ble_eq_true rfl, Nat.le_of_ble_eq_true rfl⟩ dX2_tryPlace_47) ?_
        refine lv_isub hx hb dX2_tryPlace_50 ?_
        refine k_iast hx hb hG (hw.2 4 (by decide)) hS (SVA.b (i := 4) (by decide)) (vp_in_nI (show i < 8 by omega) (by decide)) dX2_tryPlace_51 (fun H1 locs hP1 z1 oq1 hS => ?_)
        have hw : SW D cy a b (zN z n B) lc B.2.2.2 (fset G 4 i ((F 2 i) - (pRange px py (F 0 i) (F 1 i)))) H1 := SW.setA hd hw (i := 4) (by decide) (show i < 8 by omega) hP1 oq1
        refine lv_iload hx hb dX2_tryPlace_52 (lv_at hl 0 rfl) ?_
        refine lv_iload_n hx hb dX2_tryPlace_54 rfl (lv_at hl 6 rfl) ?_
        refine lv_icmp_eq (tgt := 90) hx hb dX2_tryPlace_55 (by decide) (fun c_55 => ?_) (fun c_55 => ?_)
        · refine lv_iinc (v := (nI (i + 1))) (lv' := [(6, .int (nI (i + 1))), (5, .int wt), (4, .int su), (0, .ref a), (1, .int px), (2, .int py), (3, .int lo)]) hx hb dX2_tryPlace_90 hl (k := 0) rfl ((nI_succ i).symm) (by decide) rfl (fun ls hl => ?_)
          have hml : c.maxLocals = ls.size := hml9.trans hl.1.symm
          refine lv_goto (tgt := 9) hx hb dX2_tryPlace_93 (by decide) ?_
          exact ih9 (i + 1) su wt (fset G 4 i ((F 2 i) - (pRange px py (F 0 i) (F 1 i)))) _ _ (by omega) hlt (by rw [es]; exact (if_pos c_55).symm) (by rw [ew]; exact (if_pos c_55).symm) (fun j hj => by rw [← hG4 j hj]; unfold fset; rw [if_neg (by omega)]) (fun j hj => by unfold fset upd; rw [if_pos rfl]; exact if e : j = i then (by rw [if_pos e, e]; rfl) else (by rw [if_neg e]; exact hGo j (by omega))) hw hS ls (lv_sub hl [0, 1, 2, 3, 4, 5, 6] rfl)
        · refine lv_iload hx hb dX2_tryPlace_58 (lv_at hl 2 rfl) ?_
          refine lv_aload_n hx hb dX2_tryPlace_60 rfl (lv_at hl 3 rfl) ?_
          refine k_get (ci := 2) (C := RX2) (T := TX2) (N := 15) (v := .ref (b 3)) hx hb hown hG rfl kin_X2 hw.1 3 (by decide) wF_X2_21 rfl dX2_tryPlace_61 ?_
          refine lv_iload hx hb dX2_tryPlace_64 (lv_at hl 0 rfl) ?_
          refine k_iald (v := (F 3 i)) hx hb hG (hw.2 3 (by decide)) (vp_in_nI (show i < 8 by omega) (by decide)) (by rw [nI_clamp (by omega)]; exact congrFun (hG4 3 (by decide)) i) dX2_tryPlace_66 ?_
          refine lv_aload_n hx hb dX2_tryPlace_67 rfl (lv_at hl 3 rfl) ?_
          refine k_get (ci := 2) (C := RX2) (T := TX2) (N := 15) (v := .ref (b 4)) hx hb hown hG rfl kin_X2 hw.1 4 (by decide) wF_X2_24 rfl dX2_tryPlace_68 ?_
          refine lv_iload hx hb dX2_tryPlace_71 (lv_at hl 0 rfl) ?_
          refine k_iald (v := ((F 2 i) - (pRange px py (F 0 i) (F 1 i)))) hx hb hG (hw.2 4 (by decide)) (vp_in_nI (show i < 8 by omega) (by decide)) (by rw [nI_clamp (by omega)]; simp [fset, upd]) dX2_tryPlace_73 ?_
          refine lv_imul hx hb dX2_tryPlace_74 ?_
          refine lv_iadd hx hb dX2_tryPlace_75 ?_
          refine lv_istore (lv' := [(4, .int (su + ((F 3 i) * ((F 2 i) - (pRange px py (F 0 i) (F 1 i)))))), (6, .int (nI i)), (5, .int wt), (0, .ref a), (1, .int px), (2, .int py), (3, .int lo)]) hx hb dX2_tryPlace_76 hl (by decide) rfl (fun ls hl => ?_)
          have hml : c.maxLocals = ls.size := hml9.trans hl.1.symm
          refine lv_iload hx hb dX2_tryPlace_78 (lv_at hl 2 rfl) ?_
          refine lv_aload_n hx hb dX2_tryPlace_80 rfl (lv_at hl 3 rfl) ?_
          refine k_get (ci := 2) (C := RX2) (T := TX2) (N := 15) (v := .ref (b 3)) hx hb hown hG rfl kin_X2 hw.1 3 (by decide) wF_X2_21 rfl dX2_tryPlace_81 ?_
          refine lv_iload hx hb dX2_tryPlace_84 (lv_at hl 1 rfl) ?_
          refine k_iald (v := (F 3 i)) hx hb hG (hw.2 3 (by decide)) (vp_in_nI (show i < 8 by omega) (by decide)) (by rw [nI_clamp (by omega)]; exact congrFun (hG4 3 (by decide)) i) dX2_tryPlace_86 ?_
          refine lv_iadd hx hb dX2_tryPlace_87 ?_
          refine lv_istore (lv' := [(5, .int (wt + (F 3 i))), (4, .int (su + ((F 3 i) * ((F 2 i) - (pRange px py (F 0 i) (F 1 i)))))), (6, .int (nI i)), (0, .ref a), (1, .int px), (2, .int py), (3, .int lo)]) hx hb dX2_tryPlace_88 hl (by decide) rfl (fun ls hl => ?_)
          have hml : c.maxLocals = ls.size := hml9.trans hl.1.symm
          refine lv_iinc (v := (nI (i + 1))) (lv' := [(6, .int (nI (i + 1))), (5, .int (wt + (F 3 i))), (4, .int (su + ((F 3 i) * ((F 2 i) - (pRange px py (F 0 i) (F 1 i)))))), (0, .ref a), (1, .int px), (2, .int py), (3, .int lo)]) hx hb dX2_tryPlace_90 hl (k := 2) rfl ((nI_succ i).symm) (by decide) rfl (fun ls hl => ?_)
          have hml : c.maxLocals = ls.size := hml9.trans hl.1.symm
          refine lv_goto (tgt := 9) hx hb dX2_tryPlace_93 (by decide) ?_
          exact ih9 (i + 1) (su + ((F 3 i) * ((F 2 i) - (pRange px py (F 0 i) (F 1 i))))) (wt + (F 3 i)) (fset G 4 i ((F 2 i) - (pRange px py (F 0 i) (F 1 i)))) _ _ (by omega) hlt (by rw [es]; exact (if_neg c_55).symm) (by rw [ew]; exact (if_neg c_55).symm) (fun j hj => by rw [← hG4 j hj]; unfold fset; rw [if_neg (by omega)]) (fun j hj => by unfold fset upd; rw [if_pos rfl]; exact if e : j = i then (by rw [if_pos e, e]; rfl) else (by rw [if_neg e]; exact hGo j (by omega))) hw hS ls (lv_sub hl [0, 1, 2, 3, 4, 5, 6] rfl)
  exact lp9_1 (n + 1) 0 0 0 G0 _ _ (Nat.le_refl _) (Nat.zero_le _) rfl rfl h0 (fun j h => absurd h (Nat.not_lt_zero j)) hI hS ls (lv_sub hl [0, 1, 2, 3, 4, 5, 6] rfl)
set_option maxHeartbeats 4000000 in
set_option maxRecDepth 100000 in
theorem c_X2_search (l : Launch) (D : va_G) (cy : Nat → ClassId) (a : Nat) (b : Nat → Nat) (hd : SVd a b) (z : Nat → Int32) (lc : Int64) (n : Nat) (hn : n ≤ 8) (B : Bst) (F G0 : Nat → Nat → Int32) (h0 : ∀ j, j < 4 → G0 j = F j) (lo : Int32) : Met l yX2_search [.code yX2_search cX2_search 4 none] ({ frames := 3, cells := 0, slots := 0, locals := 74 } : Room) (PC D cy [.ref a, .int lo] (fun H => SW D cy a b (zN z n B) lc B.2.2.2 G0 H)) (UQv (SVA a b) (fun H => ∃ G : Nat → Nat → Int32, (∀ j, j < 4 → G j = F j) ∧ SW D cy a b (zN z n (pFind F n lo B)) lc ((pFind F n lo B).2.2.2) G H)) 0 0 (SVA a b) := by
  refine k_body (by decide +kernel) (Nat.le_of_ble_eq_true rfl) ?_
  intro p e s m below meth c ls hx hb hml hown hr hlk hmn hl hG hI
  have hml9 : c.maxLocals = 4 := hml.trans hl.1
  have hl : lv_has ls 4 [(0, .ref a), (1, .int lo)] := hl
  have hS : va_S (SVA a b) s.heap s.heap [] := va_S.rf
  refine lv_aload_n hx hb dX2_search_0 rfl (lv_at hl 0 rfl) ?_
  refine lv_ldc2 hx hb hown (hG.w wK_X2_77 rfl) dX2_search_1 ?_
  refine k_put (ci := 2) (C := RX2) (T := TX2) (N := 15) (v := .long (-1)) hx hb hown hG rfl kin_X2 tyX2 tyX2_ok nmX2 hI.1 hS SVA.a 14 (by decide) wF_X2_60 rfl rfl rfl (Nat.le_of_ble_eq_true rfl) dX2_search_4 (fun H1 locs hP1 z1 oq1 hS => ?_)
  have hw : SW D cy a b (zN z n B) lc (-1) G0 H1 := SW.setO hd hI hP1 oq1
  refine lv_iconst (v := 0) hx hb dX2_search_7 (by decide) ?_
  refine lv_istore_n (lv' := [(2, .int 0), (0, .ref a), (1, .int lo)]) hx hb dX2_search_8 rfl hl (by decide) rfl (fun ls hl => ?_)
  have hml : c.maxLocals = ls.size := hml9.trans hl.1.symm
  have lp9_1 : ∀ (n9 : Nat) (j : Nat) (G : Nat → Nat → Int32) (H : Heap) (locs : List Loc), 14 - j ≤ n9 → j ≤ 13 → (∀ i, i < 4 → G i = F i) → SW D cy a b (zN z n (pSrch F n lo j (B.1, B.2.1, B.2.2.1, -1))) lc ((pSrch F n lo j (B.1, B.2.1, B.2.2.1, -1)).2.2.2) G H → va_S (SVA a b) s.heap H locs →  ∀ ls : Array Slot, lv_has ls 4 [(2, .int (nI j)), (0, .ref a), (1, .int lo)] → W p l e ({ frames := 3, cells := 0, slots := 0, locals := 74 } : Room) s m ([.ref a, .int lo] : List Value).toArray below meth c H locs 0 0 (MQ below (UQv (SVA a b) (fun H => ∃ G : Nat → Nat → Int32, (∀ j, j < 4 → G j = F j) ∧ SW D cy a b (zN z n (pFind F n lo B)) lc ((pFind F n lo B).2.2.2) G H)) ([.ref a, .int lo] : List Value).toArray s 0 0 (SVA a b)) (F0 m 9 ls []) := by
    intro n9
    induction n9 with
    | zero =>
      intro j G H locs h9
      intro hj; exact absurd h9 (by omega)
    | succ n9 ih9 =>
      intro j G H locs hn9 hj hG4 hw hS ls hl
      have hml : c.maxLocals = ls.size := hml9.trans hl.1.symm
      have ihy9 := ih9
      refine lv_iload_n hx hb dX2_search_9 rfl (lv_at hl 0 rfl) ?_
      refine lv_bipush (v := 12) hx hb dX2_search_10 (by decide) ?_
      refine lv_icmp_gt (tgt := 43) hx hb dX2_search_12 (by decide) (fun c_12 => ?_) (fun c_12 => ?_)
      · have ej : j = 13 := (y12_gt j hj).mp c_12
        subst ej
        exact ke_uv hx hb hr hlk hS dX2_search_43 ⟨_, hG4, (by rw [pFind]; exact hw)⟩
      · have hj2 : j < 13 := by
          have := mt (y12_gt j hj).mpr c_12
          omega
        refine lv_bipush (v := (-12)) hx hb dX2_search_15 (by decide) ?_
        refine lv_istore_n (lv' := [(3, .int (-12)), (2, .int (nI j)), (0, .ref a), (1, .int lo)]) hx hb dX2_search_17 rfl hl (by decide) rfl (fun ls hl => ?_)
        have hml : c.maxLocals = ls.size := hml9.trans hl.1.symm
        rw [x12_0] at hl
        have lp18_2 : ∀ (n9 : Nat) (k : Nat) (G : Nat → Nat → Int32) (H : Heap) (locs : List Loc), 26 - k ≤ n9 → k ≤ 25 → (∀ i, i < 4 → G i = F i) → SW D cy a b (zN z n (pRowS F n lo (nI j) k (pSrch F n lo j (B.1, B.2.1, B.2.2.1, -1)))) lc ((pRowS F n lo (nI j) k (pSrch F n lo j (B.1, B.2.1, B.2.2.1, -1))).2.2.2) G H → va_S (SVA a b) s.heap H locs →  ∀ ls : Array Slot, lv_has ls 4 [(3, .int (nI k + (-12))), (2, .int (nI j)), (0, .ref a), (1, .int lo)] → W p l e ({ frames := 3, cells := 0, slots := 0, locals := 74 } : Room) s m ([.ref a, .int lo] : List Value).toArray below meth c H locs 0 0 (MQ below (UQv (SVA a b) (fun H => ∃ G : Nat → Nat → Int32, (∀ j, j < 4 → G j = F j) ∧ SW D cy a b (zN z n (pFind F n lo B)) lc ((pFind F n lo B).2.2.2) G H)) ([.ref a, .int lo] : List Value).toArray s 0 0 (SVA a b)) (F0 m 18 ls []) := by
          intro n9
          induction n9 with
          | zero =>
            intro k G H locs h9
            intro hk; exact absurd h9 (by omega)
          | succ n9 ih9 =>
            intro k G H locs hn9 hk hG4 hw hS ls hl
            have hml : c.maxLocals = ls.size := hml9.trans hl.1.symm
            refine lv_iload_n hx hb dX2_search_18 rfl (lv_at hl 0 rfl) ?_
            refine lv_bipush (v := 12) hx hb dX2_search_19 (by decide) ?_
            refine lv_icmp_gt (tgt := 37) hx hb dX2_search_21 (by decide) (fun c_21 => ?_) (fun c_21 => ?_)
            · have ek : k = 25 := (x12_gt k hk).mp c_21
              subst ek
              refine lv_iinc (v := (nI (j + 1))) (lv' := [(2, .int (nI (j + 1))), (3, .int (nI 25 + (-12))), (0, .ref a), (1, .int lo)]) hx hb dX2_search_37 hl (k := 1) rfl ((nI_succ j).symm) (by decide) rfl (fun ls hl => ?_)
              have hml : c.maxLocals = ls.size := hml9.trans hl.1.symm
              refine lv_goto (tgt := 9) hx hb dX2_search_40 (by decide) ?_
              exact ihy9 (j + 1) G _ _ (by omega) (by omega) hG4 (by rw [pSrch_s]; exact hw) hS ls (lv_sub hl [0, 2, 3] rfl)
            · have hk2 : k < 25 := by
                have := mt (x12_gt k hk).mpr c_21
                omega
              refine lv_aload_n hx hb dX2_search_24 rfl (lv_at hl 2 rfl) ?_
              refine lv_iload_n hx hb dX2_search_25 rfl (lv_at hl 0 rfl) ?_
              refine lv_iload_n hx hb dX2_search_26 rfl (lv_at hl 1 rfl) ?_
              refine lv_iload_n hx hb dX2_search_27 rfl (lv_at hl 3 rfl) ?_
              refine kc_uv (kr_V (As := [.int (nI k + (-12)), .int (nI j), .int lo]) (rest := []) hx hb hml hown hG (c_X2_tryPlace l D cy a b hd z lc n hn (pRowS F n lo (nI j) k (pSrch F n lo j (B.1, B.2.1, B.2.2.1, -1))) F G hG4 (nI k + (-12)) (nI j) lo) cf_X2_tryPlace wM_X2_79 hw.1 rfl hw ⟨rfl, rfl, by decide, by decide⟩ rfl rfl (Nat.le_of_ble_eq_true rfl) ⟨Nat.le_of_ble_eq_true rfl, Nat.le_of_ble_eq_true rfl⟩ dX2_search_28) hS (fun _ h => h) (fun H1 locs hp1 z1 oq1 hS => ?_)
              obtain ⟨G1, hG4, hw⟩ := hp1
              refine lv_iinc (v := (nI (k + 1) + (-12))) (lv' := [(3, .int (nI (k + 1) + (-12))), (2, .int (nI j)), (0, .ref a), (1, .int lo)]) hx hb dX2_search_31 hl (k := 0) rfl (x12_s k) (by decide) rfl (fun ls hl => ?_)
              have hml : c.maxLocals = ls.size := hml9.trans hl.1.symm
              refine lv_goto (tgt := 18) hx hb dX2_search_34 (by decide) ?_
              exact ih9 (k + 1) G1 _ _ (by omega) (by omega) hG4 (by rw [pRowS_s]; exact hw) hS ls (lv_sub hl [0, 1, 2, 3] rfl)
        exact lp18_2 26 0 _ _ _ (Nat.le_refl _) (Nat.zero_le _) hG4 (by rw [pRowS_0]; exact hw) hS ls (lv_sub hl [0, 1, 2, 3] rfl)
  exact lp9_1 14 0 G0 _ _ (Nat.le_refl _) (Nat.zero_le _) h0 (by rw [pSrch_0]; exact ⟨hw.1, hw.2⟩) hS ls (lv_sub hl [0, 1, 2] rfl)
set_option maxHeartbeats 4000000 in
set_option maxRecDepth 100000 in
theorem c_X2_solve (l : Launch) (D : va_G) (cy : Nat → ClassId) (a : Nat) (b : Nat → Nat) (hd : SVd a b) (z : Nat → Int32) (lc : Int64) (n : Nat) (hn : n ≤ 8) (B : Bst) (F G0 : Nat → Nat → Int32) (h0 : ∀ j, j < 4 → G0 j = F j) : Met l yX2_solve [.code yX2_solve cX2_solve 3 none] ({ frames := 4, cells := 0, slots := 0, locals := 97 } : Room) (PC D cy [.ref a] (fun H => SW D cy a b (zN z n B) lc B.2.2.2 G0 H)) (UQv (SVA a b) (fun H => ∃ G : Nat → Nat → Int32, (∀ j, j < 4 → G j = F j) ∧ ∃ B2 : Bst, SW D cy a b (zB (zSolve F z n B) B2) (lSolve F z lc n B) B2.2.2.2 G H)) 0 0 (SVA a b) := by
  refine k_body (by decide +kernel) (Nat.le_of_ble_eq_true rfl) ?_
  intro p e s m below meth c ls hx hb hml hown hr hlk hmn hl hG hI
  have hml9 : c.maxLocals = 3 := hml.trans hl.1
  have hl : lv_has ls 3 [(0, .ref a)] := hl
  have hS : va_S (SVA a b) s.heap s.heap [] := va_S.rf
  have hG4 := h0
  refine lv_aload_n hx hb dX2_solve_0 rfl (lv_at hl 0 rfl) ?_
  refine lv_bipush (v := 99) hx hb dX2_solve_1 (by decide) ?_
  refine k_put (ci := 2) (C := RX2) (T := TX2) (N := 15) (v := .int 99) hx hb hown hG rfl kin_X2 tyX2 tyX2_ok nmX2 hI.1 hS SVA.a 10 (by decide) wF_X2_31 rfl rfl rfl (Nat.le_of_ble_eq_true rfl) dX2_solve_3 (fun H1 locs hP1 z1 oq1 hS => ?_)
  have hw : SW D cy a b (zN (upd z 10 99) n B) lc B.2.2.2 G0 H1 := SW.setO hd hI hP1 oq1
  refine lv_aload_n hx hb dX2_solve_6 rfl (lv_at hl 0 rfl) ?_
  refine kc_i (kr_V (As := []) (rest := []) hx hb hml hown hG (c_X2_hasSolution l D cy a (zN (upd z 10 99) n B) lc B.2.2.2 b) cf_X2_hasSolution wM_X2_34 hw.1 rfl hw.1 ⟨rfl, rfl, by decide, by decide⟩ rfl rfl (Nat.le_of_ble_eq_true rfl) ⟨Nat.le_of_ble_eq_true rfl, Nat.le_of_ble_eq_true rfl⟩ dX2_solve_7) ?_
  refine lv_if_ne (tgt := 14) hx hb dX2_solve_10 (by decide) (fun c_10 => ?_) (fun c_10 => ?_)
  · refine lv_aload_n hx hb dX2_solve_14 rfl (lv_at hl 0 rfl) ?_
    refine lv_iconst (v := (-1)) hx hb dX2_solve_15 (by decide) ?_
    refine kc_uv (kr_V (As := [.int (-1)]) (rest := []) hx hb hml hown hG (c_X2_search l D cy a b hd (upd z 10 99) lc n hn B F G0 hG4 (-1)) cf_X2_search wM_X2_38 hw.1 rfl hw ⟨rfl, rfl, by decide, by decide⟩ rfl rfl (Nat.le_of_ble_eq_true rfl) ⟨Nat.le_of_ble_eq_true rfl, Nat.le_of_ble_eq_true rfl⟩ dX2_solve_16) hS (fun _ h => h) (fun H1 locs hp1 z1 oq1 hS => ?_)
    obtain ⟨G1, hG4, hw⟩ := hp1
    refine lv_aload_n hx hb dX2_solve_19 rfl (lv_at hl 0 rfl) ?_
    refine lv_aload_n hx hb dX2_solve_20 rfl (lv_at hl 0 rfl) ?_
    refine k_get (ci := 2) (C := RX2) (T := TX2) (N := 15) (v := .int ((pFind F n (-1) B).1)) hx hb hown hG rfl kin_X2 hw.1 11 (by decide) wF_X2_42 rfl dX2_solve_21 ?_
    refine k_put (ci := 2) (C := RX2) (T := TX2) (N := 15) (v := .int ((pFind F n (-1) B).1)) hx hb hown hG rfl kin_X2 tyX2 tyX2_ok nmX2 hw.1 hS SVA.a 6 (by decide) wF_X2_45 rfl rfl rfl (Nat.le_of_ble_eq_true rfl) dX2_solve_24 (fun H1 locs hP1 z1 oq1 hS => ?_)
    have hw : SW D cy a b (zN (upd (upd z 10 99) 6 ((pFind F n (-1) B).1)) n (pFind F n (-1) B)) lc ((pFind F n (-1) B).2.2.2) G1 H1 := SW.setO hd hw hP1 oq1
    refine lv_aload_n hx hb dX2_solve_27 rfl (lv_at hl 0 rfl) ?_
    refine lv_aload_n hx hb dX2_solve_28 rfl (lv_at hl 0 rfl) ?_
    refine k_get (ci := 2) (C := RX2) (T := TX2) (N := 15) (v := .int ((pFind F n (-1) B).2.1)) hx hb hown hG rfl kin_X2 hw.1 12 (by decide) wF_X2_48 rfl dX2_solve_29 ?_
    refine k_put (ci := 2) (C := RX2) (T := TX2) (N := 15) (v := .int ((pFind F n (-1) B).2.1)) hx hb hown hG rfl kin_X2 tyX2 tyX2_ok nmX2 hw.1 hS SVA.a 7 (by decide) wF_X2_51 rfl rfl rfl (Nat.le_of_ble_eq_true rfl) dX2_solve_32 (fun H1 locs hP1 z1 oq1 hS => ?_)
    have hw : SW D cy a b (zN (upd (upd (upd z 10 99) 6 ((pFind F n (-1) B).1)) 7 ((pFind F n (-1) B).2.1)) n (pFind F n (-1) B)) lc ((pFind F n (-1) B).2.2.2) G1 H1 := SW.setO hd hw hP1 oq1
    refine lv_aload_n hx hb dX2_solve_35 rfl (lv_at hl 0 rfl) ?_
    refine lv_aload_n hx hb dX2_solve_36 rfl (lv_at hl 0 rfl) ?_
    refine k_get (ci := 2) (C := RX2) (T := TX2) (N := 15) (v := .int ((pFind F n (-1) B).2.2.1)) hx hb hown hG rfl kin_X2 hw.1 13 (by decide) wF_X2_54 rfl dX2_solve_37 ?_
    refine k_put (ci := 2) (C := RX2) (T := TX2) (N := 15) (v := .int ((pFind F n (-1) B).2.2.1)) hx hb hown hG rfl kin_X2 tyX2 tyX2_ok nmX2 hw.1 hS SVA.a 8 (by decide) wF_X2_57 rfl rfl rfl (Nat.le_of_ble_eq_true rfl) dX2_solve_40 (fun H1 locs hP1 z1 oq1 hS => ?_)
    have hw : SW D cy a b (zN (upd (upd (upd (upd z 10 99) 6 ((pFind F n (-1) B).1)) 7 ((pFind F n (-1) B).2.1)) 8 ((pFind F n (-1) B).2.2.1)) n (pFind F n (-1) B)) lc ((pFind F n (-1) B).2.2.2) G1 H1 := SW.setO hd hw hP1 oq1
    refine lv_aload_n hx hb dX2_solve_43 rfl (lv_at hl 0 rfl) ?_
    refine lv_aload_n hx hb dX2_solve_44 rfl (lv_at hl 0 rfl) ?_
    refine k_get (ci := 2) (C := RX2) (T := TX2) (N := 15) (v := .long ((pFind F n (-1) B).2.2.2)) hx hb hown hG rfl kin_X2 hw.1 14 (by decide) wF_X2_60 rfl dX2_solve_45 ?_
    refine k_put (ci := 2) (C := RX2) (T := TX2) (N := 15) (v := .long ((pFind F n (-1) B).2.2.2)) hx hb hown hG rfl kin_X2 tyX2 tyX2_ok nmX2 hw.1 hS SVA.a 9 (by decide) wF_X2_64 rfl rfl rfl (Nat.le_of_ble_eq_true rfl) dX2_solve_48 (fun H1 locs hP1 z1 oq1 hS => ?_)
    have hw : SW D cy a b (zN (upd (upd (upd (upd z 10 99) 6 ((pFind F n (-1) B).1)) 7 ((pFind F n (-1) B).2.1)) 8 ((pFind F n (-1) B).2.2.1)) n (pFind F n (-1) B)) ((pFind F n (-1) B).2.2.2) ((pFind F n (-1) B).2.2.2) G1 H1 := SW.setO hd hw hP1 oq1
    refine lv_aload_n hx hb dX2_solve_51 rfl (lv_at hl 0 rfl) ?_
    refine k_get (ci := 2) (C := RX2) (T := TX2) (N := 15) (v := .int (nI n)) hx hb hown hG rfl kin_X2 hw.1 5 (by decide) wF_X2_27 rfl dX2_solve_52 ?_
    refine lv_iconst (v := 4) hx hb dX2_solve_55 (by decide) ?_
    refine lv_icmp_ge (tgt := 60) hx hb dX2_solve_56 (by decide) (fun c_56 => ?_) (fun c_56 => ?_)
    · refine lv_iconst (v := 0) hx hb dX2_solve_60 (by decide) ?_
      refine lv_istore_n (lv' := [(1, .int 0), (0, .ref a)]) hx hb dX2_solve_61 rfl hl (by decide) rfl (fun ls hl => ?_)
      have hml : c.maxLocals = ls.size := hml9.trans hl.1.symm
      refine lv_iconst (v := 0) hx hb dX2_solve_62 (by decide) ?_
      refine lv_istore_n (lv' := [(2, .int 0), (1, .int 0), (0, .ref a)]) hx hb dX2_solve_63 rfl hl (by decide) rfl (fun ls hl => ?_)
      have hml : c.maxLocals = ls.size := hml9.trans hl.1.symm
      have lp64_1 : ∀ (n9 : Nat) (i : Nat) (fa : Int32) (G : Nat → Nat → Int32) (H : Heap) (locs : List Loc), n + 1 - i ≤ n9 → i ≤ n → fa = (pFar F n (pR1 F n B).1 (pR1 F n B).2.1 (pR1 F n B) i).1 → (∀ j, j < 4 → G j = F j) → SW D cy a b (zN (upd (upd (upd (upd z 10 99) 6 (pR1 F n B).1) 7 (pR1 F n B).2.1) 8 (pR1 F n B).2.2.1) n (pFar F n (pR1 F n B).1 (pR1 F n B).2.1 (pR1 F n B) i).2) ((pR1 F n B).2.2.2) ((pFar F n (pR1 F n B).1 (pR1 F n B).2.1 (pR1 F n B) i).2.2.2.2) G H → va_S (SVA a b) s.heap H locs →  ∀ ls : Array Slot, lv_has ls 3 [(2, .int (nI i)), (1, .int fa), (0, .ref a)] → W p l e ({ frames := 4, cells := 0, slots := 0, locals := 97 } : Room) s m ([.ref a] : List Value).toArray below meth c H locs 0 0 (MQ below (UQv (SVA a b) (fun H => ∃ G : Nat → Nat → Int32, (∀ j, j < 4 → G j = F j) ∧ ∃ B2 : Bst, SW D cy a b (zB (zSolve F z n B) B2) (lSolve F z lc n B) B2.2.2.2 G H)) ([.ref a] : List Value).toArray s 0 0 (SVA a b)) (F0 m 64 ls []) := by
        intro n9
        induction n9 with
        | zero =>
          intro i fa G H locs h9
          intro hi; exact absurd h9 (by omega)
        | succ n9 ih9 =>
          intro i fa G H locs hn9 hi ef hG4 hw hS ls hl
          have hml : c.maxLocals = ls.size := hml9.trans hl.1.symm
          refine lv_iload_n hx hb dX2_solve_64 rfl (lv_at hl 0 rfl) ?_
          refine lv_aload_n hx hb dX2_solve_65 rfl (lv_at hl 2 rfl) ?_
          refine k_get (ci := 2) (C := RX2) (T := TX2) (N := 15) (v := .int (nI n)) hx hb hown hG rfl kin_X2 hw.1 5 (by decide) wF_X2_27 rfl dX2_solve_66 ?_
          refine lv_icmp_ge (tgt := 107) hx hb dX2_solve_69 (by decide) (fun c_69 => ?_) (fun c_69 => ?_)
          · have en : n = i := Nat.le_antisymm ((nI_leI (by omega) (by omega)).mp c_69) hi
            subst en
            subst ef
            refine lv_aload_n hx hb dX2_solve_107 rfl (lv_at hl 2 rfl) ?_
            refine lv_iconst (v := 3) hx hb dX2_solve_108 (by decide) ?_
            refine lv_iload_n hx hb dX2_solve_109 rfl (lv_at hl 1 rfl) ?_
            refine lv_iadd hx hb dX2_solve_110 ?_
            refine k_put (ci := 2) (C := RX2) (T := TX2) (N := 15) (v := .int (3 + (pFar F n (pR1 F n B).1 (pR1 F n B).2.1 (pR1 F n B) n).1)) hx hb hown hG rfl kin_X2 tyX2 tyX2_ok nmX2 hw.1 hS SVA.a 10 (by decide) wF_X2_31 rfl rfl rfl (Nat.le_of_ble_eq_true rfl) dX2_solve_111 (fun H1 locs hP1 z1 oq1 hS => ?_)
            have hw : SW D cy a b (zN (upd (upd (upd (upd (upd z 10 99) 6 (pR1 F n B).1) 7 (pR1 F n B).2.1) 8 (pR1 F n B).2.2.1) 10 (3 + (pFar F n (pR1 F n B).1 (pR1 F n B).2.1 (pR1 F n B) n).1)) n (pFar F n (pR1 F n B).1 (pR1 F n B).2.1 (pR1 F n B) n).2) ((pR1 F n B).2.2.2) ((pFar F n (pR1 F n B).1 (pR1 F n B).2.1 (pR1 F n B) n).2.2.2.2) G H1 := SW.setO hd hw hP1 oq1
            exact ke_uv hx hb hr hlk hS dX2_solve_114 ⟨_, hG4, (pFar F n (pR1 F n B).1 (pR1 F n B).2.1 (pR1 F n B) n).2, by unfold zSolve lSolve; rw [if_neg (show ¬ bI (pHas (upd z 5 (nI n))) = 0 from c_10), if_neg (show ¬ bI (pHas (upd z 5 (nI n))) = 0 from c_10), if_pos c_56]; exact ⟨hw.1, hw.2⟩⟩
          · have hlt : i < n := by
              rcases Nat.lt_or_ge i n with q | q
              · exact q
              · exact absurd (nI_le q (by omega)) c_69
            refine lv_aload_n hx hb dX2_solve_72 rfl (lv_at hl 2 rfl) ?_
            refine lv_iload_n hx hb dX2_solve_73 rfl (lv_at hl 0 rfl) ?_
            refine kc_uv (kr_V (As := [.int (nI i)]) (rest := []) hx hb hml hown hG (c_X2_search l D cy a b hd (upd (upd (upd (upd z 10 99) 6 (pR1 F n B).1) 7 (pR1 F n B).2.1) 8 (pR1 F n B).2.2.1) ((pR1 F n B).2.2.2) n hn (pFar F n (pR1 F n B).1 (pR1 F n B).2.1 (pR1 F n B) i).2 F G hG4 (nI i)) cf_X2_search wM_X2_38 hw.1 rfl hw ⟨rfl, rfl, by decide, by decide⟩ rfl rfl (Nat.le_of_ble_eq_true rfl) ⟨Nat.le_of_ble_eq_true rfl, Nat.le_of_ble_eq_true rfl⟩ dX2_solve_74) hS (fun _ h => h) (fun H1 locs hp1 z1 oq1 hS => ?_)
            obtain ⟨G1, hG4, hw⟩ := hp1
            refine lv_iload_n hx hb dX2_solve_77 rfl (lv_at hl 1 rfl) ?_
            refine lv_aload_n hx hb dX2_solve_78 rfl (lv_at hl 2 rfl) ?_
            refine k_get (ci := 2) (C := RX2) (T := TX2) (N := 15) (v := .int ((pR1 F n B).1)) hx hb hown hG rfl kin_X2 hw.1 6 (by decide) wF_X2_45 rfl dX2_solve_79 ?_
            refine lv_aload_n hx hb dX2_solve_82 rfl (lv_at hl 2 rfl) ?_
            refine k_get (ci := 2) (C := RX2) (T := TX2) (N := 15) (v := .int ((pR1 F n B).2.1)) hx hb hown hG rfl kin_X2 hw.1 7 (by decide) wF_X2_51 rfl dX2_solve_83 ?_
            refine lv_aload_n hx hb dX2_solve_86 rfl (lv_at hl 2 rfl) ?_
            refine k_get (ci := 2) (C := RX2) (T := TX2) (N := 15) (v := .int ((pFind F n (nI i) (pFar F n (pR1 F n B).1 (pR1 F n B).2.1 (pR1 F n B) i).2).1)) hx hb hown hG rfl kin_X2 hw.1 11 (by decide) wF_X2_42 rfl dX2_solve_87 ?_
            refine lv_aload_n hx hb dX2_solve_90 rfl (lv_at hl 2 rfl) ?_
            refine k_get (ci := 2) (C := RX2) (T := TX2) (N := 15) (v := .int ((pFind F n (nI i) (pFar F n (pR1 F n B).1 (pR1 F n B).2.1 (pR1 F n B) i).2).2.1)) hx hb hown hG rfl kin_X2 hw.1 12 (by decide) wF_X2_48 rfl dX2_solve_91 ?_
            refine kc_i (kr_SN (As := [.int ((pR1 F n B).1), .int ((pR1 F n B).2.1), .int ((pFind F n (nI i) (pFar F n (pR1 F n B).1 (pR1 F n B).2.1 (pR1 F n B) i).2).1), .int ((pFind F n (nI i) (pFar F n (pR1 F n B).1 (pR1 F n B).2.1 (pR1 F n B) i).2).2.1)]) (rest := [.int fa]) hx hb hml hown hG (c_X6_rangeOf l D cy ((pR1 F n B).1) ((pR1 F n B).2.1) ((pFind F n (nI i) (pFar F n (pR1 F n B).1 (pR1 F n B).2.1 (pR1 F n B) i).2).1) ((pFind F n (nI i) (pFar F n (pR1 F n B).1 (pR1 F n B).2.1 (pR1 F n B) i).2).2.1)) cf_X6_rangeOf wMN_X2_67 trivial ⟨rfl, rfl, by decide, by decide⟩ rfl rfl (Nat.le_of_ble_eq_true rfl) ⟨Nat.le_of_ble_eq_true rfl, Nat.le_of_ble_eq_true rfl⟩ dX2_solve_94) ?_
            refine k_mmax hx hb hml hown hG wM_X2_71 (Nat.le_of_ble_eq_true rfl) (Nat.le_of_ble_eq_true rfl) (Nat.le_of_ble_eq_true rfl) (Nat.le_of_ble_eq_true rfl) dX2_solve_97 ?_
            refine lv_istore_n (lv' := [(1, .int (pMax fa (pRange ((pR1 F n B).1) ((pR1 F n B).2.1) ((pFind F n (nI i) (pFar F n (pR1 F n B).1 (pR1 F n B).2.1 (pR1 F n B) i).2).1) ((pFind F n (nI i) (pFar F n (pR1 F n B).1 (pR1 F n B).2.1 (pR1 F n B) i).2).2.1)))), (2, .int (nI i)), (0, .ref a)]) hx hb dX2_solve_100 rfl hl (by decide) rfl (fun ls hl => ?_)
            have hml : c.maxLocals = ls.size := hml9.trans hl.1.symm
            refine lv_iinc (v := (nI (i + 1))) (lv' := [(2, .int (nI (i + 1))), (1, .int (pMax fa (pRange ((pR1 F n B).1) ((pR1 F n B).2.1) ((pFind F n (nI i) (pFar F n (pR1 F n B).1 (pR1 F n B).2.1 (pR1 F n B) i).2).1) ((pFind F n (nI i) (pFar F n (pR1 F n B).1 (pR1 F n B).2.1 (pR1 F n B) i).2).2.1)))), (0, .ref a)]) hx hb dX2_solve_101 hl (k := 1) rfl ((nI_succ i).symm) (by decide) rfl (fun ls hl => ?_)
            have hml : c.maxLocals = ls.size := hml9.trans hl.1.symm
            refine lv_goto (tgt := 64) hx hb dX2_solve_104 (by decide) ?_
            exact ih9 (i + 1) (pMax fa (pRange ((pR1 F n B).1) ((pR1 F n B).2.1) ((pFind F n (nI i) (pFar F n (pR1 F n B).1 (pR1 F n B).2.1 (pR1 F n B) i).2).1) ((pFind F n (nI i) (pFar F n (pR1 F n B).1 (pR1 F n B).2.1 (pR1 F n B) i).2).2.1))) G1 _ _ (by omega) hlt (by rw [ef, pFar_s]) hG4 (by rw [pFar_s]; exact hw) hS ls (lv_sub hl [0, 1, 2] rfl)
      exact lp64_1 (n + 1) 0 0 G1 _ _ (Nat.le_refl _) (Nat.zero_le _) (by rw [pFar_0]) hG4 (by rw [pFar_0]; unfold pR1; exact ⟨hw.1, hw.2⟩) hS ls (lv_sub hl [0, 1, 2] rfl)
    · exact ke_uv hx hb hr hlk hS dX2_solve_59 ⟨_, hG4, (pR1 F n B), by unfold zSolve lSolve; rw [if_neg (show ¬ bI (pHas (upd z 5 (nI n))) = 0 from c_10), if_neg (show ¬ bI (pHas (upd z 5 (nI n))) = 0 from c_10), if_neg c_56]; exact ⟨hw.1, hw.2⟩⟩
  · exact ke_uv hx hb hr hlk hS dX2_solve_13 ⟨_, hG4, B, by unfold zSolve lSolve; rw [if_pos (show bI (pHas (upd z 5 (nI n))) = 0 from c_10), if_pos (show bI (pHas (upd z 5 (nI n))) = 0 from c_10)]; exact ⟨hw.1, hw.2⟩⟩
