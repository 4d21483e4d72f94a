set_option maxHeartbeats 4000000 in
set_option maxRecDepth 100000 in
theorem c_X7_level (l : Launch) (D : va_G) (cy : Nat → ClassId) (md : Nat → Nat) (N : Nat → Nat → Int32) (co su : Int64) (hA : MI md) (ns : Nat) (hns8 : ns ≤ 8) (ens : N 0 8 = nI ns) (hlv : ∀ k, k < ns → ¬ N 9 k = 0 → ¬ mAw (mset N 9 (upd (N 9) k 0)) ns = 0) (B : Bst) (mn : Int32) : Met l yX7_level [.code yX7_level cX7_level 10 (some .int)] ({ frames := 5, cells := 0, slots := 0, locals := 121 } : Room) (PC D cy [.ref (md 0), .int mn] (fun H => MW D cy md (mB N B) B.2.2.2 su H)) (UQi (MA md) (fun r H => r = mLevel N ns B mn ∧ MW D cy md (mB N B) B.2.2.2 su H)) 0 0 (MA md) := by
  refine k_body (by decide +kernel) (Nat.le_of_ble_eq_true rfl) ?_
  intro p e s m below meth c ls hx hb hml hown hr hlk hmn hl hG hI
  have hml9 : c.maxLocals = 10 := hml.trans hl.1
  have hl : lv_has ls 10 [(0, .ref (md 0)), (1, .int mn)] := hl
  have hS : va_S (MA md) s.heap s.heap [] := va_S.rf
  have hw := hI
  refine lv_iload_n hx hb dX7_level_0 rfl (lv_at hl 1 rfl) ?_
  refine lv_iconst (v := 4) hx hb dX7_level_1 (by decide) ?_
  refine lv_icmp_ge (tgt := 8) hx hb dX7_level_2 (by decide) (fun c_2 => ?_) (fun c_2 => ?_)
  · refine lv_aload_n hx hb dX7_level_8 rfl (lv_at hl 0 rfl) ?_
    refine k_get (ci := 7) (C := RX7) (T := TX7) (N := 20) (v := .int B.1) hx hb hown hG rfl kin_X7 hw.o 15 (by decide) wF_X7_155 rfl dX7_level_9 ?_
    refine lv_istore_n (lv' := [(2, .int B.1), (0, .ref (md 0)), (1, .int mn)]) hx hb dX7_level_12 rfl hl (by decide) rfl (fun ls hl => ?_)
    have hml : c.maxLocals = ls.size := hml9.trans hl.1.symm
    refine lv_aload_n hx hb dX7_level_13 rfl (lv_at hl 1 rfl) ?_
    refine k_get (ci := 7) (C := RX7) (T := TX7) (N := 20) (v := .int B.2.1) hx hb hown hG rfl kin_X7 hw.o 16 (by decide) wF_X7_158 rfl dX7_level_14 ?_
    refine lv_istore_n (lv' := [(3, .int B.2.1), (2, .int B.1), (0, .ref (md 0)), (1, .int mn)]) hx hb dX7_level_17 rfl hl (by decide) rfl (fun ls hl => ?_)
    have hml : c.maxLocals = ls.size := hml9.trans hl.1.symm
    refine lv_aload_n hx hb dX7_level_18 rfl (lv_at hl 2 rfl) ?_
    refine k_get (ci := 7) (C := RX7) (T := TX7) (N := 20) (v := .int B.2.2.1) hx hb hown hG rfl kin_X7 hw.o 17 (by decide) wF_X7_161 rfl dX7_level_19 ?_
    refine lv_istore (lv' := [(4, .int B.2.2.1), (3, .int B.2.1), (2, .int B.1), (0, .ref (md 0)), (1, .int mn)]) hx hb dX7_level_22 hl (by decide) rfl (fun ls hl => ?_)
    have hml : c.maxLocals = ls.size := hml9.trans hl.1.symm
    refine lv_aload_n hx hb dX7_level_24 rfl (lv_at hl 3 rfl) ?_
    refine k_get (ci := 7) (C := RX7) (T := TX7) (N := 20) (v := .long B.2.2.2) hx hb hown hG rfl kin_X7 hw.o 18 (by decide) wF_X7_144 rfl dX7_level_25 ?_
    refine lv_lstore (lv' := [(5, .long B.2.2.2), (4, .int B.2.2.1), (3, .int B.2.1), (2, .int B.1), (0, .ref (md 0)), (1, .int mn)]) hx hb dX7_level_28 hl (by decide) rfl (fun ls hl => ?_)
    have hml : c.maxLocals = ls.size := hml9.trans hl.1.symm
    refine lv_iconst (v := 0) hx hb dX7_level_30 (by decide) ?_
    refine lv_istore (lv' := [(7, .int 0), (5, .long B.2.2.2), (4, .int B.2.2.1), (3, .int B.2.1), (2, .int B.1), (0, .ref (md 0)), (1, .int mn)]) hx hb dX7_level_31 hl (by decide) rfl (fun ls hl => ?_)
    have hml : c.maxLocals = ls.size := hml9.trans hl.1.symm
    refine lv_iconst (v := 0) hx hb dX7_level_33 (by decide) ?_
    refine lv_istore (lv' := [(8, .int 0), (7, .int 0), (5, .long B.2.2.2), (4, .int B.2.2.1), (3, .int B.2.1), (2, .int B.1), (0, .ref (md 0)), (1, .int mn)]) hx hb dX7_level_34 hl (by decide) rfl (fun ls hl => ?_)
    have hml : c.maxLocals = ls.size := hml9.trans hl.1.symm
    have lp36_1 : ∀ (n9 : Nat) (k : Nat) (fa : Int32) (Bk : Bst) (H : Heap) (locs : List Loc), ns + 1 - k ≤ n9 → k ≤ ns → MW D cy md (mB N Bk) Bk.2.2.2 su H → fa = (mLev N ns B.1 B.2.1 B k).1 → Bk = (mLev N ns B.1 B.2.1 B k).2 → va_S (MA md) s.heap H locs →  ∀ ls : Array Slot, lv_has ls 10 [(8, .int (nI k)), (7, .int fa), (5, .long B.2.2.2), (4, .int B.2.2.1), (3, .int B.2.1), (2, .int B.1), (0, .ref (md 0)), (1, .int mn)] → W p l e ({ frames := 5, cells := 0, slots := 0, locals := 121 } : Room) s m ([.ref (md 0), .int mn] : List Value).toArray below meth c H locs 0 0 (MQ below (UQi (MA md) (fun r H => r = mLevel N ns B mn ∧ MW D cy md (mB N B) B.2.2.2 su H)) ([.ref (md 0), .int mn] : List Value).toArray s 0 0 (MA md)) (F0 m 36 ls []) := by
      intro n9
      induction n9 with
      | zero =>
        intro k fa Bk H locs h9
        intro hk; exact absurd h9 (by omega)
      | succ n9 ih9 =>
        intro k fa Bk H locs hn9 hk hw ef eBk hS ls hl
        have hml : c.maxLocals = ls.size := hml9.trans hl.1.symm
        refine lv_iload hx hb dX7_level_36 (lv_at hl 0 rfl) ?_
        refine lv_aload_n hx hb dX7_level_38 rfl (lv_at hl 6 rfl) ?_
        refine k_get (ci := 7) (C := RX7) (T := TX7) (N := 20) (v := .int ((mB N Bk 0) 8)) hx hb hown hG rfl kin_X7 hw.o 8 (by decide) wF_X7_79 rfl dX7_level_39 ?_
        refine lv_icmp_ge (tgt := 109) hx hb dX7_level_42 (by decide) (fun c_42 => ?_) (fun c_42 => ?_)
        · rw [show mB N Bk 0 8 = nI ns from ens] at c_42
          have enk : k = ns := Nat.le_antisymm hk ((nI_leI (by omega) (by omega)).mp c_42)
          refine lv_aload_n hx hb dX7_level_109 rfl (lv_at hl 6 rfl) ?_
          refine lv_iload_n hx hb dX7_level_110 rfl (lv_at hl 5 rfl) ?_
          refine k_put (ci := 7) (C := RX7) (T := TX7) (N := 20) (v := .int B.1) hx hb hown hG rfl kin_X7 tyX7 tyX7_ok nmX7 hw.o hS MA.o 15 (by decide) wF_X7_155 rfl rfl rfl (Nat.le_of_ble_eq_true rfl) dX7_level_111 (fun H1 locs hP1 z1 oq1 hS => ?_)
          have hw := hw.setO (r := (upd (mB N Bk 0) 15 B.1)) (c' := Bk.2.2.2) (s' := su) hA hP1 oq1
          refine lv_aload_n hx hb dX7_level_114 rfl (lv_at hl 6 rfl) ?_
          refine lv_iload_n hx hb dX7_level_115 rfl (lv_at hl 4 rfl) ?_
          refine k_put (ci := 7) (C := RX7) (T := TX7) (N := 20) (v := .int B.2.1) hx hb hown hG rfl kin_X7 tyX7 tyX7_ok nmX7 (show va_P D vwCl [(md 0, .inr (7, [.int ((upd (mB N Bk 0) 15 B.1) 0), .int ((upd (mB N Bk 0) 15 B.1) 1), .int ((upd (mB N Bk 0) 15 B.1) 2), .ref (md 1), .ref (md 2), .ref (md 3), .ref (md 4), .ref (md 5), .int ((upd (mB N Bk 0) 15 B.1) 8), .int ((upd (mB N Bk 0) 15 B.1) 9), .int ((upd (mB N Bk 0) 15 B.1) 10), .ref (md 6), .ref (md 7), .ref (md 8), .ref (md 9), .int ((upd (mB N Bk 0) 15 B.1) 15), .int ((upd (mB N Bk 0) 15 B.1) 16), .int ((upd (mB N Bk 0) 15 B.1) 17), .long Bk.2.2.2, .long su]))] _ from by have h := hw.o; unfold mO at h; rw [mset_s] at h; exact h) hS MA.o 16 (by decide) wF_X7_158 rfl rfl rfl (Nat.le_of_ble_eq_true rfl) dX7_level_116 (fun H1 locs hP1 z1 oq1 hS => ?_)
          have hw := hw.setO (r := (upd (upd (mB N Bk 0) 15 B.1) 16 B.2.1)) (c' := Bk.2.2.2) (s' := su) hA hP1 oq1
          rw [mset_mset] at hw
          refine lv_aload_n hx hb dX7_level_119 rfl (lv_at hl 6 rfl) ?_
          refine lv_iload hx hb dX7_level_120 (lv_at hl 3 rfl) ?_
          refine k_put (ci := 7) (C := RX7) (T := TX7) (N := 20) (v := .int B.2.2.1) hx hb hown hG rfl kin_X7 tyX7 tyX7_ok nmX7 (show va_P D vwCl [(md 0, .inr (7, [.int ((upd (upd (mB N Bk 0) 15 B.1) 16 B.2.1) 0), .int ((upd (upd (mB N Bk 0) 15 B.1) 16 B.2.1) 1), .int ((upd (upd (mB N Bk 0) 15 B.1) 16 B.2.1) 2), .ref (md 1), .ref (md 2), .ref (md 3), .ref (md 4), .ref (md 5), .int ((upd (upd (mB N Bk 0) 15 B.1) 16 B.2.1) 8), .int ((upd (upd (mB N Bk 0) 15 B.1) 16 B.2.1) 9), .int ((upd (upd (mB N Bk 0) 15 B.1) 16 B.2.1) 10), .ref (md 6), .ref (md 7), .ref (md 8), .ref (md 9), .int ((upd (upd (mB N Bk 0) 15 B.1) 16 B.2.1) 15), .int ((upd (upd (mB N Bk 0) 15 B.1) 16 B.2.1) 16), .int ((upd (upd (mB N Bk 0) 15 B.1) 16 B.2.1) 17), .long Bk.2.2.2, .long su]))] _ from by have h := hw.o; unfold mO at h; rw [mset_s] at h; exact h) hS MA.o 17 (by decide) wF_X7_161 rfl rfl rfl (Nat.le_of_ble_eq_true rfl) dX7_level_122 (fun H1 locs hP1 z1 oq1 hS => ?_)
          have hw := hw.setO (r := (upd (upd (upd (mB N Bk 0) 15 B.1) 16 B.2.1) 17 B.2.2.1)) (c' := Bk.2.2.2) (s' := su) hA hP1 oq1
          rw [mset_mset] at hw
          refine lv_aload_n hx hb dX7_level_125 rfl (lv_at hl 6 rfl) ?_
          refine lv_lload hx hb dX7_level_126 (lv_at hl 2 rfl) ?_
          refine k_put (ci := 7) (C := RX7) (T := TX7) (N := 20) (v := .long B.2.2.2) hx hb hown hG rfl kin_X7 tyX7 tyX7_ok nmX7 (show va_P D vwCl [(md 0, .inr (7, [.int ((upd (upd (upd (mB N Bk 0) 15 B.1) 16 B.2.1) 17 B.2.2.1) 0), .int ((upd (upd (upd (mB N Bk 0) 15 B.1) 16 B.2.1) 17 B.2.2.1) 1), .int ((upd (upd (upd (mB N Bk 0) 15 B.1) 16 B.2.1) 17 B.2.2.1) 2), .ref (md 1), .ref (md 2), .ref (md 3), .ref (md 4), .ref (md 5), .int ((upd (upd (upd (mB N Bk 0) 15 B.1) 16 B.2.1) 17 B.2.2.1) 8), .int ((upd (upd (upd (mB N Bk 0) 15 B.1) 16 B.2.1) 17 B.2.2.1) 9), .int ((upd (upd (upd (mB N Bk 0) 15 B.1) 16 B.2.1) 17 B.2.2.1) 10), .ref (md 6), .ref (md 7), .ref (md 8), .ref (md 9), .int ((upd (upd (upd (mB N Bk 0) 15 B.1) 16 B.2.1) 17 B.2.2.1) 15), .int ((upd (upd (upd (mB N Bk 0) 15 B.1) 16 B.2.1) 17 B.2.2.1) 16), .int ((upd (upd (upd (mB N Bk 0) 15 B.1) 16 B.2.1) 17 B.2.2.1) 17), .long Bk.2.2.2, .long su]))] _ from by have h := hw.o; unfold mO at h; rw [mset_s] at h; exact h) hS MA.o 18 (by decide) wF_X7_144 rfl rfl rfl (Nat.le_of_ble_eq_true rfl) dX7_level_128 (fun H1 locs hP1 z1 oq1 hS => ?_)
          have hw : MW D cy md (mset (mB N Bk) 0 (upd (upd (upd (mB N Bk 0) 15 B.1) 16 B.2.1) 17 B.2.2.1)) B.2.2.2 su H1 := hw.setL hA hP1 oq1
          refine lv_iconst (v := 3) hx hb dX7_level_131 (by decide) ?_
          refine lv_iload hx hb dX7_level_132 (lv_at hl 1 rfl) ?_
          refine lv_iadd hx hb dX7_level_134 ?_
          have hw : MW D cy md (mB N B) B.2.2.2 su H1 := by rw [← mB_mB N Bk B]; exact hw
          exact ke_ui hx hb hr hlk hS dX7_level_135 ⟨(by unfold mLevel; rw [if_pos c_2, ef, enk]), hw⟩
        · rw [show mB N Bk 0 8 = nI ns from ens] at c_42
          have hltk : k < ns := by
            rcases Nat.lt_or_ge k ns with q | q
            · exact q
            · exact absurd (nI_le q (by omega)) c_42
          have hlt8k : k < 8 := Nat.lt_of_lt_of_le hltk hns8
          refine lv_aload_n hx hb dX7_level_45 rfl (lv_at hl 6 rfl) ?_
          refine k_get (ci := 7) (C := RX7) (T := TX7) (N := 20) (v := .ref (md 9)) hx hb hown hG rfl kin_X7 hw.o 14 (by decide) wF_X7_38 rfl dX7_level_46 ?_
          refine lv_iload hx hb dX7_level_49 (lv_at hl 0 rfl) ?_
          refine k_iald (v := ((N 9) k)) hx hb hG (hw.wt) (vp_in_nI (n := k) hlt8k (by decide)) (congrArg (N 9) (nI_clamp (by have := hlt8k; omega))) dX7_level_51 ?_
          refine lv_istore (lv' := [(9, .int ((N 9) k)), (8, .int (nI k)), (7, .int fa), (5, .long B.2.2.2), (4, .int B.2.2.1), (3, .int B.2.1), (2, .int B.1), (0, .ref (md 0)), (1, .int mn)]) hx hb dX7_level_52 hl (by decide) rfl (fun ls hl => ?_)
          have hml : c.maxLocals = ls.size := hml9.trans hl.1.symm
          refine lv_iload hx hb dX7_level_54 (lv_at hl 0 rfl) ?_
          refine lv_if_ne (tgt := 62) hx hb dX7_level_56 (by decide) (fun c_56 => ?_) (fun c_56 => ?_)
          · have c_56 : ¬ N 9 k = 0 := c_56
            refine lv_aload_n hx hb dX7_level_62 rfl (lv_at hl 7 rfl) ?_
            refine k_get (ci := 7) (C := RX7) (T := TX7) (N := 20) (v := .ref (md 9)) hx hb hown hG rfl kin_X7 hw.o 14 (by decide) wF_X7_38 rfl dX7_level_63 ?_
            refine lv_iload hx hb dX7_level_66 (lv_at hl 1 rfl) ?_
            refine lv_iconst (v := 0) hx hb dX7_level_68 (by decide) ?_
            refine k_iast hx hb hG (hw.wt) hS (MA.i (mkb_iff.mp (by decide))) (vp_in_nI (n := k) hlt8k (by decide)) dX7_level_69 (fun H1 locs hP1 z1 oq1 hS => ?_)
            rw [nI_clamp (by have := hlt8k; omega)] at hP1
            have hw := hw.setI hA (mkb_iff.mp (by decide)) (by decide) hP1 oq1
            refine lv_aload_n hx hb dX7_level_70 rfl (lv_at hl 7 rfl) ?_
            have hw : MW D cy md (mB (mset N 9 (upd (N 9) k 0)) Bk) Bk.2.2.2 su H1 := by rw [← mB_9]; exact hw
            refine kc_uv (kr_V (As := []) (rest := []) hx hb hml hown hG (c_X7_solve l D cy md (mset N 9 (upd (N 9) k 0)) co su hA ns hns8 ens (hlv k hltk c_56) Bk) cf_X7_solve wM_X7_179 hw.o rfl hw ⟨rfl, rfl, by decide, by decide⟩ rfl rfl (Nat.le_of_ble_eq_true rfl) ⟨Nat.le_of_ble_eq_true rfl, Nat.le_of_ble_eq_true rfl⟩ dX7_level_71) hS (fun _ h => h) (fun H1 locs hp1 z1 oq1 hS => ?_)
            obtain ⟨B1, eB1⟩ : ∃ B1, B1 = mFind (mset N 9 (upd (N 9) k 0)) ns Bk := ⟨_, rfl⟩
            rw [← eB1] at hp1
            have hw : MW D cy md (mB (mset N 9 (upd (N 9) k 0)) B1) B1.2.2.2 su H1 := hp1
            refine lv_iload hx hb dX7_level_74 (lv_at hl 2 rfl) ?_
            refine lv_iload_n hx hb dX7_level_76 rfl (lv_at hl 6 rfl) ?_
            refine lv_iload_n hx hb dX7_level_77 rfl (lv_at hl 5 rfl) ?_
            refine lv_aload_n hx hb dX7_level_78 rfl (lv_at hl 7 rfl) ?_
            refine k_get (ci := 7) (C := RX7) (T := TX7) (N := 20) (v := .int B1.1) hx hb hown hG rfl kin_X7 hw.o 15 (by decide) wF_X7_155 rfl dX7_level_79 ?_
            refine lv_aload_n hx hb dX7_level_82 rfl (lv_at hl 7 rfl) ?_
            refine k_get (ci := 7) (C := RX7) (T := TX7) (N := 20) (v := .int B1.2.1) hx hb hown hG rfl kin_X7 hw.o 16 (by decide) wF_X7_158 rfl dX7_level_83 ?_
            refine kc_i (kr_S (As := [.int B.1, .int B.2.1, .int B1.1, .int B1.2.1]) (rest := [.int fa]) hx hb hml hown hG (c_X7_range l D cy B.1 B.2.1 B1.1 B1.2.1) cf_X7_range wM_X7_118 trivial ⟨rfl, rfl, by decide, by decide⟩ rfl rfl (Nat.le_of_ble_eq_true rfl) ⟨Nat.le_of_ble_eq_true rfl, Nat.le_of_ble_eq_true rfl⟩ dX7_level_86) ?_
            refine k_mmax hx hb hml hown hG wM_X7_51 (Nat.le_of_ble_eq_true rfl) (Nat.le_of_ble_eq_true rfl) (Nat.le_of_ble_eq_true rfl) (Nat.le_of_ble_eq_true rfl) dX7_level_89 ?_
            refine lv_istore (lv' := [(7, .int (pMax fa (pRange B.1 B.2.1 B1.1 B1.2.1))), (9, .int ((N 9) k)), (8, .int (nI k)), (5, .long B.2.2.2), (4, .int B.2.2.1), (3, .int B.2.1), (2, .int B.1), (0, .ref (md 0)), (1, .int mn)]) hx hb dX7_level_92 hl (by decide) rfl (fun ls hl => ?_)
            have hml : c.maxLocals = ls.size := hml9.trans hl.1.symm
            refine lv_aload_n hx hb dX7_level_94 rfl (lv_at hl 7 rfl) ?_
            refine k_get (ci := 7) (C := RX7) (T := TX7) (N := 20) (v := .ref (md 9)) hx hb hown hG rfl kin_X7 hw.o 14 (by decide) wF_X7_38 rfl dX7_level_95 ?_
            refine lv_iload hx hb dX7_level_98 (lv_at hl 2 rfl) ?_
            refine lv_iload hx hb dX7_level_100 (lv_at hl 1 rfl) ?_
            refine k_iast hx hb hG (hw.wt) hS (MA.i (mkb_iff.mp (by decide))) (vp_in_nI (n := k) hlt8k (by decide)) dX7_level_102 (fun H1 locs hP1 z1 oq1 hS => ?_)
            rw [nI_clamp (by have := hlt8k; omega)] at hP1
            have hw := hw.setI hA (mkb_iff.mp (by decide)) (by decide) hP1 oq1
            have hw : MW D cy md (mB N B1) B1.2.2.2 su H1 := by rw [← mB_back N B1 k]; exact hw
            refine lv_iinc (v := (nI (k + 1))) (lv' := [(8, .int (nI (k + 1))), (7, .int (pMax fa (pRange B.1 B.2.1 B1.1 B1.2.1))), (9, .int ((N 9) k)), (5, .long B.2.2.2), (4, .int B.2.2.1), (3, .int B.2.1), (2, .int B.1), (0, .ref (md 0)), (1, .int mn)]) hx hb dX7_level_103 hl (k := 2) rfl ((nI_succ k).symm) (by decide) rfl (fun ls hl => ?_)
            have hml : c.maxLocals = ls.size := hml9.trans hl.1.symm
            refine lv_goto (tgt := 36) hx hb dX7_level_106 (by decide) ?_
            exact ih9 (k + 1) _ B1 _ _ (by omega) hltk hw (by rw [mLev_s, if_neg c_56, ← eBk, ← eB1, ef]) (by rw [mLev_s, if_neg c_56, ← eBk]; exact eB1) hS ls (lv_sub hl [0, 1, 3, 4, 5, 6, 7, 8] rfl)
          · have c_56 : N 9 k = 0 := c_56
            refine lv_goto (tgt := 103) hx hb dX7_level_59 (by decide) ?_
            refine lv_iinc (v := (nI (k + 1))) (lv' := [(8, .int (nI (k + 1))), (9, .int ((N 9) k)), (7, .int fa), (5, .long B.2.2.2), (4, .int B.2.2.1), (3, .int B.2.1), (2, .int B.1), (0, .ref (md 0)), (1, .int mn)]) hx hb dX7_level_103 hl (k := 1) rfl ((nI_succ k).symm) (by decide) rfl (fun ls hl => ?_)
            have hml : c.maxLocals = ls.size := hml9.trans hl.1.symm
            refine lv_goto (tgt := 36) hx hb dX7_level_106 (by decide) ?_
            exact ih9 (k + 1) _ Bk _ _ (by omega) hltk hw (by rw [mLev_s, if_pos c_56]; exact ef) (by rw [mLev_s, if_pos c_56]; exact eBk) hS ls (lv_sub hl [0, 2, 3, 4, 5, 6, 7, 8] rfl)
    exact lp36_1 (ns + 1) 0 0 B _ _ (Nat.le_refl _) (Nat.zero_le _) hw (by rw [mLev_0]) (by rw [mLev_0]) hS ls (lv_sub hl [0, 1, 2, 3, 4, 5, 6, 7] rfl)
  · refine lv_bipush (v := 99) hx hb dX7_level_5 (by decide) ?_
    exact ke_ui hx hb hr hlk hS dX7_level_7 ⟨(by unfold mLevel; rw [if_neg c_2]), hw⟩
