set_option maxHeartbeats 4000000 in
set_option maxRecDepth 100000 in
theorem c_X7_look (l : Launch) (D : va_G) (cy : Nat → ClassId) (md : Nat → Nat) (N : Nat → Nat → Int32) (co su : Int64) (hA : MI md) (ns : Nat) (hns8 : ns ≤ 8) (ens : N 0 8 = nI ns) (haw : ¬ mAw N ns = 0) (B : Bst) (x y : Int32) : Met l yX7_look [.code yX7_look cX7_look 11 none] ({ frames := 3, cells := 0, slots := 0, locals := 69 } : Room) (PC D cy [.ref (md 0), .int x, .int y] (fun H => MW D cy md (mB N B) B.2.2.2 su H)) (UQv (MA md) (fun H => MW D cy md (mB N (mTry N ns x y B)) (mTry N ns x y B).2.2.2 su H)) 0 0 (MA md) := by
  refine k_body (by decide +kernel) (Nat.le_of_ble_eq_true rfl) ?_
  intro p e s m below meth c ls hx hb hml hown hr hlk hmn hl hG hI
  have hml9 : c.maxLocals = 11 := hml.trans hl.1
  have hl : lv_has ls 11 [(0, .ref (md 0)), (1, .int x), (2, .int y)] := hl
  have hS : va_S (MA md) s.heap s.heap [] := va_S.rf
  have hw := hI
  refine lv_iconst (v := 0) hx hb dX7_look_0 (by decide) ?_
  refine lv_istore_n (lv' := [(3, .int 0), (0, .ref (md 0)), (1, .int x), (2, .int y)]) hx hb dX7_look_1 rfl hl (by decide) rfl (fun ls hl => ?_)
  have hml : c.maxLocals = ls.size := hml9.trans hl.1.symm
  refine lv_iconst (v := 0) hx hb dX7_look_2 (by decide) ?_
  refine lv_istore (lv' := [(4, .int 0), (3, .int 0), (0, .ref (md 0)), (1, .int x), (2, .int y)]) hx hb dX7_look_3 hl (by decide) rfl (fun ls hl => ?_)
  have hml : c.maxLocals = ls.size := hml9.trans hl.1.symm
  refine lv_iconst (v := 0) hx hb dX7_look_5 (by decide) ?_
  refine lv_istore (lv' := [(5, .int 0), (4, .int 0), (3, .int 0), (0, .ref (md 0)), (1, .int x), (2, .int y)]) hx hb dX7_look_6 hl (by decide) rfl (fun ls hl => ?_)
  have hml : c.maxLocals = ls.size := hml9.trans hl.1.symm
  have lp8_1 : ∀ (n9 : Nat) (j : Nat) (sw aw : Int32), ns + 1 - j ≤ n9 → j ≤ ns → sw = mSw N x y j → aw = mAw N j →  ∀ ls : Array Slot, lv_has ls 11 [(5, .int (nI j)), (4, .int aw), (3, .int sw), (0, .ref (md 0)), (1, .int x), (2, .int y)] → W p l e ({ frames := 3, cells := 0, slots := 0, locals := 69 } : Room) s m ([.ref (md 0), .int x, .int y] : List Value).toArray below meth c s.heap [] 0 0 (MQ below (UQv (MA md) (fun H => MW D cy md (mB N (mTry N ns x y B)) (mTry N ns x y B).2.2.2 su H)) ([.ref (md 0), .int x, .int y] : List Value).toArray s 0 0 (MA md)) (F0 m 8 ls []) := by
    intro n9
    induction n9 with
    | zero =>
      intro j sw aw h9
      intro hj; exact absurd h9 (by omega)
    | succ n9 ih9 =>
      intro j sw aw hn9 hj ea eb ls hl
      have hml : c.maxLocals = ls.size := hml9.trans hl.1.symm
      refine lv_iload hx hb dX7_look_8 (lv_at hl 0 rfl) ?_
      refine lv_aload_n hx hb dX7_look_10 rfl (lv_at hl 3 rfl) ?_
      refine k_get (ci := 7) (C := RX7) (T := TX7) (N := 20) (v := .int ((mB N B 0) 8)) hx hb hown hG rfl kin_X7 hw.o 8 (by decide) wF_X7_79 rfl dX7_look_11 ?_
      refine lv_icmp_ge (tgt := 67) hx hb dX7_look_14 (by decide) (fun c_14 => ?_) (fun c_14 => ?_)
      · rw [show mB N B 0 8 = nI ns from ens] at c_14
        have enj : j = ns := Nat.le_antisymm hj ((nI_leI (by omega) (by omega)).mp c_14)
        rw [enj] at ea eb
        refine lv_iload_n hx hb dX7_look_67 rfl (lv_at hl 2 rfl) ?_
        refine lv_iload hx hb dX7_look_68 (lv_at hl 1 rfl) ?_
        refine kc_i (kr_S (As := [.int sw, .int aw]) (rest := []) hx hb hml hown hG (c_J9_floorDiv_7cf53 l D cy sw aw (by rw [eb]; exact haw)) cf_J9_floorDiv_7cf53 wM_X7_137 trivial ⟨rfl, rfl, by decide, by decide⟩ rfl rfl (Nat.le_of_ble_eq_true rfl) ⟨Nat.le_of_ble_eq_true rfl, Nat.le_of_ble_eq_true rfl⟩ dX7_look_70) ?_
        refine lv_topi (fun tm etm0 => ?_)
        refine lv_istore (lv' := [(5, .int tm), (4, .int aw), (3, .int sw), (0, .ref (md 0)), (1, .int x), (2, .int y)]) hx hb dX7_look_73 hl (by decide) rfl (fun ls hl => ?_)
        have hml : c.maxLocals = ls.size := hml9.trans hl.1.symm
        have etm : tm = mTm N ns x y := by rw [etm0, ea, eb]; rfl
        refine lv_lconst (v := 0) hx hb dX7_look_75 (by decide) ?_
        refine lv_lstore (lv' := [(6, .long 0), (5, .int tm), (4, .int aw), (3, .int sw), (0, .ref (md 0)), (1, .int x), (2, .int y)]) hx hb dX7_look_76 hl (by decide) rfl (fun ls hl => ?_)
        have hml : c.maxLocals = ls.size := hml9.trans hl.1.symm
        refine lv_iconst (v := 0) hx hb dX7_look_78 (by decide) ?_
        refine lv_istore (lv' := [(8, .int 0), (6, .long 0), (5, .int tm), (4, .int aw), (3, .int sw), (0, .ref (md 0)), (1, .int x), (2, .int y)]) hx hb dX7_look_79 hl (by decide) rfl (fun ls hl => ?_)
        have hml : c.maxLocals = ls.size := hml9.trans hl.1.symm
        have lp81_2 : ∀ (n9 : Nat) (j : Nat) (cw : Int64), ns + 1 - j ≤ n9 → j ≤ ns → cw = mCw N x y tm j →  ∀ ls : Array Slot, lv_has ls 11 [(8, .int (nI j)), (6, .long cw), (5, .int tm), (4, .int aw), (3, .int sw), (0, .ref (md 0)), (1, .int x), (2, .int y)] → W p l e ({ frames := 3, cells := 0, slots := 0, locals := 69 } : Room) s m ([.ref (md 0), .int x, .int y] : List Value).toArray below meth c s.heap [] 0 0 (MQ below (UQv (MA md) (fun H => MW D cy md (mB N (mTry N ns x y B)) (mTry N ns x y B).2.2.2 su H)) ([.ref (md 0), .int x, .int y] : List Value).toArray s 0 0 (MA md)) (F0 m 81 ls []) := by
          intro n9
          induction n9 with
          | zero =>
            intro j cw h9
            intro hj; exact absurd h9 (by omega)
          | succ n9 ih9 =>
            intro j cw hn9 hj ec ls hl
            have hml : c.maxLocals = ls.size := hml9.trans hl.1.symm
            refine lv_iload hx hb dX7_look_81 (lv_at hl 0 rfl) ?_
            refine lv_aload_n hx hb dX7_look_83 rfl (lv_at hl 5 rfl) ?_
            refine k_get (ci := 7) (C := RX7) (T := TX7) (N := 20) (v := .int ((mB N B 0) 8)) hx hb hown hG rfl kin_X7 hw.o 8 (by decide) wF_X7_79 rfl dX7_look_84 ?_
            refine lv_icmp_ge (tgt := 142) hx hb dX7_look_87 (by decide) (fun c_87 => ?_) (fun c_87 => ?_)
            · rw [show mB N B 0 8 = nI ns from ens] at c_87
              have enj : j = ns := Nat.le_antisymm hj ((nI_leI (by omega) (by omega)).mp c_87)
              refine lv_lload hx hb dX7_look_142 (lv_at hl 1 rfl) ?_
              refine lv_aload_n hx hb dX7_look_144 rfl (lv_at hl 5 rfl) ?_
              refine k_get (ci := 7) (C := RX7) (T := TX7) (N := 20) (v := .long B.2.2.2) hx hb hown hG rfl kin_X7 hw.o 18 (by decide) wF_X7_144 rfl dX7_look_145 ?_
              refine W.lcmp hx hb dX7_look_148 ?_
              refine lv_if_lt (tgt := 153) hx hb dX7_look_149 (by decide) (fun c_149 => ?_) (fun c_149 => ?_)
              · rw [enj] at ec
                have c_149 : lg_cmp (mCw N x y (mTm N ns x y) ns) B.2.2.2 < 0 := by rw [← etm, ← ec]; exact c_149
                refine lv_aload_n hx hb dX7_look_153 rfl (lv_at hl 5 rfl) ?_
                refine lv_lload hx hb dX7_look_154 (lv_at hl 1 rfl) ?_
                refine k_put (ci := 7) (C := RX7) (T := TX7) (N := 20) (v := .long cw) hx hb hown hG rfl kin_X7 tyX7 tyX7_ok nmX7 hw.o hS MA.o 18 (by decide) wF_X7_144 rfl rfl rfl (Nat.le_of_ble_eq_true rfl) dX7_look_156 (fun H1 locs hP1 z1 oq1 hS => ?_)
                have hw : MW D cy md (mB N B) cw su H1 := hw.setL hA hP1 oq1
                refine lv_aload_n hx hb dX7_look_159 rfl (lv_at hl 5 rfl) ?_
                refine lv_iload_n hx hb dX7_look_160 rfl (lv_at hl 6 rfl) ?_
                refine k_put (ci := 7) (C := RX7) (T := TX7) (N := 20) (v := .int x) hx hb hown hG rfl kin_X7 tyX7 tyX7_ok nmX7 hw.o hS MA.o 15 (by decide) wF_X7_155 rfl rfl rfl (Nat.le_of_ble_eq_true rfl) dX7_look_161 (fun H1 locs hP1 z1 oq1 hS => ?_)
                have hw := hw.setO (r := (upd (mB N B 0) 15 x)) (c' := cw) (s' := su) hA hP1 oq1
                refine lv_aload_n hx hb dX7_look_164 rfl (lv_at hl 5 rfl) ?_
                refine lv_iload_n hx hb dX7_look_165 rfl (lv_at hl 7 rfl) ?_
                refine k_put (ci := 7) (C := RX7) (T := TX7) (N := 20) (v := .int y) hx hb hown hG rfl kin_X7 tyX7 tyX7_ok nmX7 (show va_P D vwCl [(md 0, .inr (7, [.int ((upd (mB N B 0) 15 x) 0), .int ((upd (mB N B 0) 15 x) 1), .int ((upd (mB N B 0) 15 x) 2), .ref (md 1), .ref (md 2), .ref (md 3), .ref (md 4), .ref (md 5), .int ((upd (mB N B 0) 15 x) 8), .int ((upd (mB N B 0) 15 x) 9), .int ((upd (mB N B 0) 15 x) 10), .ref (md 6), .ref (md 7), .ref (md 8), .ref (md 9), .int ((upd (mB N B 0) 15 x) 15), .int ((upd (mB N B 0) 15 x) 16), .int ((upd (mB N B 0) 15 x) 17), .long cw, .long su]))] _ from by have h := hw.o; unfold mO at h; rw [mset_s] at h; exact h) hS MA.o 16 (by decide) wF_X7_158 rfl rfl rfl (Nat.le_of_ble_eq_true rfl) dX7_look_166 (fun H1 locs hP1 z1 oq1 hS => ?_)
                have hw := hw.setO (r := (upd (upd (mB N B 0) 15 x) 16 y)) (c' := cw) (s' := su) hA hP1 oq1
                rw [mset_mset] at hw
                refine lv_aload_n hx hb dX7_look_169 rfl (lv_at hl 5 rfl) ?_
                refine lv_iload hx hb dX7_look_170 (lv_at hl 2 rfl) ?_
                refine k_put (ci := 7) (C := RX7) (T := TX7) (N := 20) (v := .int tm) hx hb hown hG rfl kin_X7 tyX7 tyX7_ok nmX7 (show va_P D vwCl [(md 0, .inr (7, [.int ((upd (upd (mB N B 0) 15 x) 16 y) 0), .int ((upd (upd (mB N B 0) 15 x) 16 y) 1), .int ((upd (upd (mB N B 0) 15 x) 16 y) 2), .ref (md 1), .ref (md 2), .ref (md 3), .ref (md 4), .ref (md 5), .int ((upd (upd (mB N B 0) 15 x) 16 y) 8), .int ((upd (upd (mB N B 0) 15 x) 16 y) 9), .int ((upd (upd (mB N B 0) 15 x) 16 y) 10), .ref (md 6), .ref (md 7), .ref (md 8), .ref (md 9), .int ((upd (upd (mB N B 0) 15 x) 16 y) 15), .int ((upd (upd (mB N B 0) 15 x) 16 y) 16), .int ((upd (upd (mB N B 0) 15 x) 16 y) 17), .long cw, .long su]))] _ from by have h := hw.o; unfold mO at h; rw [mset_s] at h; exact h) hS MA.o 17 (by decide) wF_X7_161 rfl rfl rfl (Nat.le_of_ble_eq_true rfl) dX7_look_172 (fun H1 locs hP1 z1 oq1 hS => ?_)
                have hw := hw.setO (r := (upd (upd (upd (mB N B 0) 15 x) 16 y) 17 tm)) (c' := cw) (s' := su) hA hP1 oq1
                rw [mset_mset] at hw
                rw [ec, etm] at hw
                exact ke_uv hx hb hr hlk hS dX7_look_175 (by unfold mTry; rw [if_pos c_149]; rw [← mB_mB N B]; exact hw)
              · rw [enj] at ec
                have c_149 : ¬ lg_cmp (mCw N x y (mTm N ns x y) ns) B.2.2.2 < 0 := by rw [← etm, ← ec]; exact c_149
                exact ke_uv hx hb hr hlk hS dX7_look_152 (by unfold mTry; rw [if_neg c_149]; exact hw)
            · rw [show mB N B 0 8 = nI ns from ens] at c_87
              have hltj : j < ns := by
                rcases Nat.lt_or_ge j ns with q | q
                · exact q
                · exact absurd (nI_le q (by omega)) c_87
              have hlt8j : j < 8 := Nat.lt_of_lt_of_le hltj hns8
              refine lv_aload_n hx hb dX7_look_90 rfl (lv_at hl 5 rfl) ?_
              refine k_get (ci := 7) (C := RX7) (T := TX7) (N := 20) (v := .ref (md 9)) hx hb hown hG rfl kin_X7 hw.o 14 (by decide) wF_X7_38 rfl dX7_look_91 ?_
              refine lv_iload hx hb dX7_look_94 (lv_at hl 0 rfl) ?_
              refine k_iald (v := ((N 9) j)) hx hb hG (hw.wt) (vp_in_nI (n := j) hlt8j (by decide)) (congrArg (N 9) (nI_clamp (by have := hlt8j; omega))) dX7_look_96 ?_
              refine lv_if_ne (tgt := 103) hx hb dX7_look_97 (by decide) (fun c_97 => ?_) (fun c_97 => ?_)
              · have c_97 : ¬ N 9 j = 0 := c_97
                refine lv_aload_n hx hb dX7_look_103 rfl (lv_at hl 5 rfl) ?_
                refine lv_iload hx hb dX7_look_104 (lv_at hl 0 rfl) ?_
                refine lv_iload_n hx hb dX7_look_106 rfl (lv_at hl 6 rfl) ?_
                refine lv_iload_n hx hb dX7_look_107 rfl (lv_at hl 7 rfl) ?_
                refine kc_i (kr_V (As := [.int (nI j), .int x, .int y]) (rest := []) hx hb hml hown hG (c_X7_over l D cy md (mB N B) B.2.2.2 su j hlt8j x y) cf_X7_over wM_X7_152 hw.o rfl hw ⟨rfl, rfl, by decide, by decide⟩ rfl rfl (Nat.le_of_ble_eq_true rfl) ⟨Nat.le_of_ble_eq_true rfl, Nat.le_of_ble_eq_true rfl⟩ dX7_look_108) ?_
                refine lv_topi (fun ov eov => ?_)
                have eov : ov = mOver N x y j := eov
                refine lv_iload hx hb dX7_look_111 (lv_at hl 2 rfl) ?_
                refine lv_isub hx hb dX7_look_113 ?_
                refine lv_i2l (v := (ov - tm).toInt64) hx hb dX7_look_114 rfl ?_
                refine lv_lstore (lv' := [(9, .long ((ov - tm).toInt64)), (8, .int (nI j)), (6, .long cw), (5, .int tm), (4, .int aw), (3, .int sw), (0, .ref (md 0)), (1, .int x), (2, .int y)]) hx hb dX7_look_115 hl (by decide) rfl (fun ls hl => ?_)
                have hml : c.maxLocals = ls.size := hml9.trans hl.1.symm
                refine lv_lload hx hb dX7_look_117 (lv_at hl 2 rfl) ?_
                refine lv_aload_n hx hb dX7_look_119 rfl (lv_at hl 6 rfl) ?_
                refine k_get (ci := 7) (C := RX7) (T := TX7) (N := 20) (v := .ref (md 9)) hx hb hown hG rfl kin_X7 hw.o 14 (by decide) wF_X7_38 rfl dX7_look_120 ?_
                refine lv_iload hx hb dX7_look_123 (lv_at hl 1 rfl) ?_
                refine k_iald (v := ((N 9) j)) hx hb hG (hw.wt) (vp_in_nI (n := j) hlt8j (by decide)) (congrArg (N 9) (nI_clamp (by have := hlt8j; omega))) dX7_look_125 ?_
                refine lv_i2l (v := ((N 9) j).toInt64) hx hb dX7_look_126 rfl ?_
                refine lv_lload hx hb dX7_look_127 (lv_at hl 0 rfl) ?_
                refine lv_lmul hx hb dX7_look_129 ?_
                refine lv_lload hx hb dX7_look_130 (lv_at hl 0 rfl) ?_
                refine lv_lmul hx hb dX7_look_132 ?_
                refine lv_ladd hx hb dX7_look_133 ?_
                refine lv_lstore (lv' := [(6, .long (cw + ((((N 9) j).toInt64 * (ov - tm).toInt64) * (ov - tm).toInt64))), (9, .long ((ov - tm).toInt64)), (8, .int (nI j)), (5, .int tm), (4, .int aw), (3, .int sw), (0, .ref (md 0)), (1, .int x), (2, .int y)]) hx hb dX7_look_134 hl (by decide) rfl (fun ls hl => ?_)
                have hml : c.maxLocals = ls.size := hml9.trans hl.1.symm
                refine lv_iinc (v := (nI (j + 1))) (lv' := [(8, .int (nI (j + 1))), (6, .long (cw + ((((N 9) j).toInt64 * (ov - tm).toInt64) * (ov - tm).toInt64))), (9, .long ((ov - tm).toInt64)), (5, .int tm), (4, .int aw), (3, .int sw), (0, .ref (md 0)), (1, .int x), (2, .int y)]) hx hb dX7_look_136 hl (k := 2) rfl ((nI_succ j).symm) (by decide) rfl (fun ls hl => ?_)
                have hml : c.maxLocals = ls.size := hml9.trans hl.1.symm
                refine lv_goto (tgt := 81) hx hb dX7_look_139 (by decide) ?_
                exact ih9 (j + 1) (cw + ((((N 9) j).toInt64 * (ov - tm).toInt64) * (ov - tm).toInt64)) (by omega) hltj (by rw [ec, mCw_s, if_neg c_97, eov]) ls (lv_sub hl [0, 1, 3, 4, 5, 6, 7, 8] rfl)
              · have c_97 : N 9 j = 0 := c_97
                refine lv_goto (tgt := 136) hx hb dX7_look_100 (by decide) ?_
                refine lv_iinc (v := (nI (j + 1))) (lv' := [(8, .int (nI (j + 1))), (6, .long cw), (5, .int tm), (4, .int aw), (3, .int sw), (0, .ref (md 0)), (1, .int x), (2, .int y)]) hx hb dX7_look_136 hl (k := 0) rfl ((nI_succ j).symm) (by decide) rfl (fun ls hl => ?_)
                have hml : c.maxLocals = ls.size := hml9.trans hl.1.symm
                refine lv_goto (tgt := 81) hx hb dX7_look_139 (by decide) ?_
                exact ih9 (j + 1) cw (by omega) hltj (by rw [ec, mCw_s, if_pos c_97]) ls (lv_sub hl [0, 1, 2, 3, 4, 5, 6, 7] rfl)
        exact lp81_2 (ns + 1) 0 0 (Nat.le_refl _) (Nat.zero_le _) (by rw [mCw_0]) ls (lv_sub hl [0, 1, 2, 3, 4, 5, 6, 7] rfl)
      · rw [show mB N B 0 8 = nI ns from ens] at c_14
        have hltj : j < ns := by
          rcases Nat.lt_or_ge j ns with q | q
          · exact q
          · exact absurd (nI_le q (by omega)) c_14
        have hlt8j : j < 8 := Nat.lt_of_lt_of_le hltj hns8
        refine lv_aload_n hx hb dX7_look_17 rfl (lv_at hl 3 rfl) ?_
        refine k_get (ci := 7) (C := RX7) (T := TX7) (N := 20) (v := .ref (md 9)) hx hb hown hG rfl kin_X7 hw.o 14 (by decide) wF_X7_38 rfl dX7_look_18 ?_
        refine lv_iload hx hb dX7_look_21 (lv_at hl 0 rfl) ?_
        refine k_iald (v := ((N 9) j)) hx hb hG (hw.wt) (vp_in_nI (n := j) hlt8j (by decide)) (congrArg (N 9) (nI_clamp (by have := hlt8j; omega))) dX7_look_23 ?_
        refine lv_if_ne (tgt := 30) hx hb dX7_look_24 (by decide) (fun c_24 => ?_) (fun c_24 => ?_)
        · have c_24 : ¬ N 9 j = 0 := c_24
          refine lv_iload_n hx hb dX7_look_30 rfl (lv_at hl 2 rfl) ?_
          refine lv_aload_n hx hb dX7_look_31 rfl (lv_at hl 3 rfl) ?_
          refine k_get (ci := 7) (C := RX7) (T := TX7) (N := 20) (v := .ref (md 9)) hx hb hown hG rfl kin_X7 hw.o 14 (by decide) wF_X7_38 rfl dX7_look_32 ?_
          refine lv_iload hx hb dX7_look_35 (lv_at hl 0 rfl) ?_
          refine k_iald (v := ((N 9) j)) hx hb hG (hw.wt) (vp_in_nI (n := j) hlt8j (by decide)) (congrArg (N 9) (nI_clamp (by have := hlt8j; omega))) dX7_look_37 ?_
          refine lv_aload_n hx hb dX7_look_38 rfl (lv_at hl 3 rfl) ?_
          refine lv_iload hx hb dX7_look_39 (lv_at hl 0 rfl) ?_
          refine lv_iload_n hx hb dX7_look_41 rfl (lv_at hl 4 rfl) ?_
          refine lv_iload_n hx hb dX7_look_42 rfl (lv_at hl 5 rfl) ?_
          refine kc_i (kr_V (As := [.int (nI j), .int x, .int y]) (rest := [.int ((N 9) j), .int sw]) hx hb hml hown hG (c_X7_over l D cy md (mB N B) B.2.2.2 su j hlt8j x y) cf_X7_over wM_X7_152 hw.o rfl hw ⟨rfl, rfl, by decide, by decide⟩ rfl rfl (Nat.le_of_ble_eq_true rfl) ⟨Nat.le_of_ble_eq_true rfl, Nat.le_of_ble_eq_true rfl⟩ dX7_look_43) ?_
          refine lv_topi (fun ov eov => ?_)
          have eov : ov = mOver N x y j := eov
          refine lv_imul hx hb dX7_look_46 ?_
          refine lv_iadd hx hb dX7_look_47 ?_
          refine lv_istore_n (lv' := [(3, .int (sw + (((N 9) j) * ov))), (5, .int (nI j)), (4, .int aw), (0, .ref (md 0)), (1, .int x), (2, .int y)]) hx hb dX7_look_48 rfl hl (by decide) rfl (fun ls hl => ?_)
          have hml : c.maxLocals = ls.size := hml9.trans hl.1.symm
          refine lv_iload hx hb dX7_look_49 (lv_at hl 2 rfl) ?_
          refine lv_aload_n hx hb dX7_look_51 rfl (lv_at hl 3 rfl) ?_
          refine k_get (ci := 7) (C := RX7) (T := TX7) (N := 20) (v := .ref (md 9)) hx hb hown hG rfl kin_X7 hw.o 14 (by decide) wF_X7_38 rfl dX7_look_52 ?_
          refine lv_iload hx hb dX7_look_55 (lv_at hl 1 rfl) ?_
          refine k_iald (v := ((N 9) j)) hx hb hG (hw.wt) (vp_in_nI (n := j) hlt8j (by decide)) (congrArg (N 9) (nI_clamp (by have := hlt8j; omega))) dX7_look_57 ?_
          refine lv_iadd hx hb dX7_look_58 ?_
          refine lv_istore (lv' := [(4, .int (aw + ((N 9) j))), (3, .int (sw + (((N 9) j) * ov))), (5, .int (nI j)), (0, .ref (md 0)), (1, .int x), (2, .int y)]) hx hb dX7_look_59 hl (by decide) rfl (fun ls hl => ?_)
          have hml : c.maxLocals = ls.size := hml9.trans hl.1.symm
          refine lv_iinc (v := (nI (j + 1))) (lv' := [(5, .int (nI (j + 1))), (4, .int (aw + ((N 9) j))), (3, .int (sw + (((N 9) j) * ov))), (0, .ref (md 0)), (1, .int x), (2, .int y)]) hx hb dX7_look_61 hl (k := 2) rfl ((nI_succ j).symm) (by decide) rfl (fun ls hl => ?_)
          have hml : c.maxLocals = ls.size := hml9.trans hl.1.symm
          refine lv_goto (tgt := 8) hx hb dX7_look_64 (by decide) ?_
          exact ih9 (j + 1) (sw + (((N 9) j) * ov)) (aw + ((N 9) j)) (by omega) hltj (by rw [ea, mSw_s, if_neg c_24, eov]) (by rw [eb, mAw_s, if_neg c_24]) ls (lv_sub hl [0, 1, 2, 3, 4, 5] rfl)
        · have c_24 : N 9 j = 0 := c_24
          refine lv_goto (tgt := 61) hx hb dX7_look_27 (by decide) ?_
          refine lv_iinc (v := (nI (j + 1))) (lv' := [(5, .int (nI (j + 1))), (4, .int aw), (3, .int sw), (0, .ref (md 0)), (1, .int x), (2, .int y)]) hx hb dX7_look_61 hl (k := 0) rfl ((nI_succ j).symm) (by decide) rfl (fun ls hl => ?_)
          have hml : c.maxLocals = ls.size := hml9.trans hl.1.symm
          refine lv_goto (tgt := 8) hx hb dX7_look_64 (by decide) ?_
          exact ih9 (j + 1) sw aw (by omega) hltj (by rw [ea, mSw_s, if_pos c_24]) (by rw [eb, mAw_s, if_pos c_24]) ls (lv_sub hl [0, 1, 2, 3, 4, 5] rfl)
  exact lp8_1 (ns + 1) 0 0 0 (Nat.le_refl _) (Nat.zero_le _) (by rw [mSw_0]) (by rw [mAw_0]) ls (lv_sub hl [0, 1, 2, 3, 4, 5] rfl)
set_option maxHeartbeats 4000000 in
set_option maxRecDepth 100000 in
theorem c_X7_solve (l : Launch) (D : va_G) (cy : Nat → ClassId) (md : Nat → Nat) (N : Nat → Nat → Int32) (co su : Int64) (hA : MI md) (ns : Nat) (hns8 : ns ≤ 8) (ens : N 0 8 = nI ns) (haw : ¬ mAw N ns = 0) (B : Bst) : Met l yX7_solve [.code yX7_solve cX7_solve 3 none] ({ frames := 4, cells := 0, slots := 0, locals := 99 } : Room) (PC D cy [.ref (md 0)] (fun H => MW D cy md (mB N B) B.2.2.2 su H)) (UQv (MA md) (fun H => MW D cy md (mB N (mFind N ns B)) (mFind N ns B).2.2.2 su H)) 0 0 (MA md) := by
  refine k_body (by decide +kernel) (Nat.le_of_ble_eq_true rfl) ?_
  intro p e s m below meth c ls hx hb hml hown hr hlk hmn hl hG hI
  have hml9 : c.maxLocals = 3 := hml.trans hl.1
  have hl : lv_has ls 3 [(0, .ref (md 0))] := hl
  have hS : va_S (MA md) s.heap s.heap [] := va_S.rf
  have hw := hI
  refine lv_aload_n hx hb dX7_solve_0 rfl (lv_at hl 0 rfl) ?_
  refine lv_ldc2 hx hb hown (hG.w wK_X7_142 rfl) dX7_solve_1 ?_
  refine k_put (ci := 7) (C := RX7) (T := TX7) (N := 20) (v := .long 9223372036854775807) hx hb hown hG rfl kin_X7 tyX7 tyX7_ok nmX7 hw.o hS MA.o 18 (by decide) wF_X7_144 rfl rfl rfl (Nat.le_of_ble_eq_true rfl) dX7_solve_4 (fun H1 locs hP1 z1 oq1 hS => ?_)
  have hw : MW D cy md (mB N B) 9223372036854775807 su H1 := hw.setL hA hP1 oq1
  refine lv_iconst (v := 0) hx hb dX7_solve_7 (by decide) ?_
  refine lv_istore_n (lv' := [(1, .int 0), (0, .ref (md 0))]) hx hb dX7_solve_8 rfl hl (by decide) rfl (fun ls hl => ?_)
  have hml : c.maxLocals = ls.size := hml9.trans hl.1.symm
  have lp9_1 : ∀ (n9 : Nat) (j : Nat) (H : Heap) (locs : List Loc), 14 - j ≤ n9 → j ≤ 13 → MW D cy md (mB N (mSrch N ns j (B.1, B.2.1, B.2.2.1, 9223372036854775807))) (mSrch N ns j (B.1, B.2.1, B.2.2.1, 9223372036854775807)).2.2.2 su H → va_S (MA md) s.heap H locs →  ∀ ls : Array Slot, lv_has ls 3 [(1, .int (nI j)), (0, .ref (md 0))] → W p l e ({ frames := 4, cells := 0, slots := 0, locals := 99 } : Room) s m ([.ref (md 0)] : List Value).toArray below meth c H locs 0 0 (MQ below (UQv (MA md) (fun H => MW D cy md (mB N (mFind N ns B)) (mFind N ns B).2.2.2 su H)) ([.ref (md 0)] : List Value).toArray s 0 0 (MA md)) (F0 m 9 ls []) := by
    intro n9
    induction n9 with
    | zero =>
      intro j H locs h9
      intro hj; exact absurd h9 (by omega)
    | succ n9 ih9 =>
      intro j H locs hn9 hj hw hS ls hl
      have hml : c.maxLocals = ls.size := hml9.trans hl.1.symm
      have ihj9 := ih9
      refine lv_iload_n hx hb dX7_solve_9 rfl (lv_at hl 0 rfl) ?_
      refine lv_bipush (v := 12) hx hb dX7_solve_10 (by decide) ?_
      refine lv_icmp_gt (tgt := 42) hx hb dX7_solve_12 (by decide) (fun c_12 => ?_) (fun c_12 => ?_)
      · have ej : j = 13 := (g12 j hj).mp c_12
        exact ke_uv hx hb hr hlk hS dX7_solve_42 (by unfold mFind; rw [← ej]; exact hw)
      · have hj13 : j < 13 := by
          have := mt (g12 j hj).mpr c_12
          omega
        refine lv_bipush (v := (-12)) hx hb dX7_solve_15 (by decide) ?_
        refine lv_istore_n (lv' := [(2, .int (-12)), (1, .int (nI j)), (0, .ref (md 0))]) hx hb dX7_solve_17 rfl hl (by decide) rfl (fun ls hl => ?_)
        have hml : c.maxLocals = ls.size := hml9.trans hl.1.symm
        have lp18_2 : ∀ (n9 : Nat) (k : Nat) (H : Heap) (locs : List Loc), 26 - k ≤ n9 → k ≤ 25 → MW D cy md (mB N (mRowT N ns (nI j) k (mSrch N ns j (B.1, B.2.1, B.2.2.1, 9223372036854775807)))) (mRowT N ns (nI j) k (mSrch N ns j (B.1, B.2.1, B.2.2.1, 9223372036854775807))).2.2.2 su H → va_S (MA md) s.heap H locs →  ∀ ls : Array Slot, lv_has ls 3 [(2, .int (nI k + (-12))), (1, .int (nI j)), (0, .ref (md 0))] → W p l e ({ frames := 4, cells := 0, slots := 0, locals := 99 } : Room) s m ([.ref (md 0)] : List Value).toArray below meth c H locs 0 0 (MQ below (UQv (MA md) (fun H => MW D cy md (mB N (mFind N ns B)) (mFind N ns B).2.2.2 su H)) ([.ref (md 0)] : List Value).toArray s 0 0 (MA md)) (F0 m 18 ls []) := by
          intro n9
          induction n9 with
          | zero =>
            intro k H locs h9
            intro hk; exact absurd h9 (by omega)
          | succ n9 ih9 =>
            intro k H locs hn9 hk hw hS ls hl
            have hml : c.maxLocals = ls.size := hml9.trans hl.1.symm
            refine lv_iload_n hx hb dX7_solve_18 rfl (lv_at hl 0 rfl) ?_
            refine lv_bipush (v := 12) hx hb dX7_solve_19 (by decide) ?_
            refine lv_icmp_gt (tgt := 36) hx hb dX7_solve_21 (by decide) (fun c_21 => ?_) (fun c_21 => ?_)
            · have ek : k = 25 := (g12x k hk).mp c_21
              refine lv_iinc (v := (nI (j + 1))) (lv' := [(1, .int (nI (j + 1))), (2, .int (nI k + (-12))), (0, .ref (md 0))]) hx hb dX7_solve_36 hl (k := 1) rfl ((nI_succ j).symm) (by decide) rfl (fun ls hl => ?_)
              have hml : c.maxLocals = ls.size := hml9.trans hl.1.symm
              refine lv_goto (tgt := 9) hx hb dX7_solve_39 (by decide) ?_
              exact ihj9 (j + 1) _ _ (by omega) (by omega) (by rw [mSrch_s, ← ek]; exact hw) hS ls (lv_sub hl [0, 2] rfl)
            · have hk25 : k < 25 := by
                have := mt (g12x k hk).mpr c_21
                omega
              refine lv_aload_n hx hb dX7_solve_24 rfl (lv_at hl 2 rfl) ?_
              refine lv_iload_n hx hb dX7_solve_25 rfl (lv_at hl 0 rfl) ?_
              refine lv_iload_n hx hb dX7_solve_26 rfl (lv_at hl 1 rfl) ?_
              refine kc_uv (kr_V (As := [.int (nI k + (-12)), .int (nI j)]) (rest := []) hx hb hml hown hG (c_X7_look l D cy md N co su hA ns hns8 ens haw (mRowT N ns (nI j) k (mSrch N ns j (B.1, B.2.1, B.2.2.1, 9223372036854775807))) (nI k + (-12)) (nI j)) cf_X7_look wM_X7_148 hw.o rfl hw ⟨rfl, rfl, by decide, by decide⟩ rfl rfl (Nat.le_of_ble_eq_true rfl) ⟨Nat.le_of_ble_eq_true rfl, Nat.le_of_ble_eq_true rfl⟩ dX7_solve_27) hS (fun _ h => h) (fun H1 locs hp1 z1 oq1 hS => ?_)
              have hw : MW D cy md (mB N (mTry N ns (nI k + (-12)) (nI j) (mRowT N ns (nI j) k (mSrch N ns j (B.1, B.2.1, B.2.2.1, 9223372036854775807))))) ((mTry N ns (nI k + (-12)) (nI j) (mRowT N ns (nI j) k (mSrch N ns j (B.1, B.2.1, B.2.2.1, 9223372036854775807)))).2.2.2) su H1 := hp1
              refine lv_iinc (v := (nI (k + 1) + (-12))) (lv' := [(2, .int (nI (k + 1) + (-12))), (1, .int (nI j)), (0, .ref (md 0))]) hx hb dX7_solve_30 hl (k := 0) rfl (x12_s k) (by decide) rfl (fun ls hl => ?_)
              have hml : c.maxLocals = ls.size := hml9.trans hl.1.symm
              refine lv_goto (tgt := 18) hx hb dX7_solve_33 (by decide) ?_
              exact ih9 (k + 1) _ _ (by omega) (by omega) (by rw [mRowT_s]; exact hw) hS ls (lv_sub hl [0, 1, 2] rfl)
        exact lp18_2 26 0 _ _ (Nat.le_refl _) (Nat.zero_le _) (by rw [mRowT_0]; exact hw) hS ls (lv_sub hl [0, 1, 2] rfl)
  exact lp9_1 14 0 _ _ (Nat.le_refl _) (Nat.zero_le _) (by rw [mSrch_0]; exact hw) hS ls (lv_sub hl [0, 1] rfl)
