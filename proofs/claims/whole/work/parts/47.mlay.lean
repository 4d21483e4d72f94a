set_option maxHeartbeats 4000000 in
set_option maxRecDepth 100000 in
theorem c_X7_lay (l : Launch) (D : va_G) (cy : Nat → ClassId) (md : Nat → Nat) (N : Nat → Nat → Int32) (co su : Int64) (hA : MI md) (ns : Nat) (hns8 : ns ≤ 8) (ens : N 0 8 = nI ns) (hre : mRef N) (i : Nat) (hi : i < 3) (ar lo : Int32) : Met l yX7_lay [.code yX7_lay cX7_lay 8 (some .int)] ({ frames := 5, cells := 0, slots := 0, locals := 116 } : Room) (PC D cy [.ref (md 0), .int (nI i), .int ar, .int lo] (fun H => MW D cy md N co su H)) (UQi (MA md) (fun r H => r = nI (mLay N ns i ar lo ns).2 ∧ MW D cy md ((mLay N ns i ar lo ns).1) co su H)) 0 0 (MA md) := by
  refine k_body (by decide +kernel) (Nat.le_of_ble_eq_true rfl) ?_
  intro p e s m below meth c ls hx hb hml hown hr hlk hmn hl hG hI
  have hml9 : c.maxLocals = 8 := hml.trans hl.1
  have hl : lv_has ls 8 [(0, .ref (md 0)), (1, .int (nI i)), (2, .int ar), (3, .int lo)] := hl
  have hS : va_S (MA md) s.heap s.heap [] := va_S.rf
  have hw := hI
  refine lv_iconst (v := 0) hx hb dX7_lay_0 (by decide) ?_
  refine lv_istore (lv' := [(4, .int 0), (0, .ref (md 0)), (1, .int (nI i)), (2, .int ar), (3, .int lo)]) hx hb dX7_lay_1 hl (by decide) rfl (fun ls hl => ?_)
  have hml : c.maxLocals = ls.size := hml9.trans hl.1.symm
  refine lv_iconst (v := 0) hx hb dX7_lay_3 (by decide) ?_
  refine lv_istore (lv' := [(5, .int 0), (4, .int 0), (0, .ref (md 0)), (1, .int (nI i)), (2, .int ar), (3, .int lo)]) hx hb dX7_lay_4 hl (by decide) rfl (fun ls hl => ?_)
  have hml : c.maxLocals = ls.size := hml9.trans hl.1.symm
  have lp6_1 : ∀ (n9 : Nat) (j : Nat) (P : Nat → Nat → Int32) (q : Nat) (H : Heap) (locs : List Loc), ns + 1 - j ≤ n9 → j ≤ ns → MW D cy md P co su H → P = (mLay N ns i ar lo j).1 → q = (mLay N ns i ar lo j).2 → va_S (MA md) s.heap H locs →  ∀ ls : Array Slot, lv_has ls 8 [(5, .int (nI j)), (4, .int (nI q)), (0, .ref (md 0)), (1, .int (nI i)), (2, .int ar), (3, .int lo)] → W p l e ({ frames := 5, cells := 0, slots := 0, locals := 116 } : Room) s m ([.ref (md 0), .int (nI i), .int ar, .int lo] : List Value).toArray below meth c H locs 0 0 (MQ below (UQi (MA md) (fun r H => r = nI (mLay N ns i ar lo ns).2 ∧ MW D cy md ((mLay N ns i ar lo ns).1) co su H)) ([.ref (md 0), .int (nI i), .int ar, .int lo] : List Value).toArray s 0 0 (MA md)) (F0 m 6 ls []) := by
    intro n9
    induction n9 with
    | zero =>
      intro j P q H locs h9
      intro hj; exact absurd h9 (by omega)
    | succ n9 ih9 =>
      intro j P q H locs hn9 hj hw eP eq hS ls hl
      have hml : c.maxLocals = ls.size := hml9.trans hl.1.symm
      have ens : P 0 8 = nI ns := by rw [eP, mLay_lo _ _ _ _ _ (Or.inl (by decide))]; exact ens
      have hre : mRef P := by rw [eP]; exact mRef_of (fun k hk => mLay_lo _ _ _ _ _ (Or.inr hk) j) hre
      refine lv_iload hx hb dX7_lay_6 (lv_at hl 0 rfl) ?_
      refine lv_aload_n hx hb dX7_lay_8 rfl (lv_at hl 2 rfl) ?_
      refine k_get (ci := 7) (C := RX7) (T := TX7) (N := 20) (v := .int ((P 0) 8)) hx hb hown hG rfl kin_X7 hw.o 8 (by decide) wF_X7_79 rfl dX7_lay_9 ?_
      refine lv_icmp_ge (tgt := 219) hx hb dX7_lay_12 (by decide) (fun c_12 => ?_) (fun c_12 => ?_)
      · rw [ens] at c_12
        have enj : j = ns := Nat.le_antisymm hj ((nI_leI (by omega) (by omega)).mp c_12)
        refine lv_iload hx hb dX7_lay_219 (lv_at hl 1 rfl) ?_
        exact ke_ui hx hb hr hlk hS dX7_lay_221 ⟨(by rw [eq, enj]), by rw [enj] at eP; rw [← eP]; exact hw⟩
      · rw [ens] at c_12
        have hltj : j < ns := by
          rcases Nat.lt_or_ge j ns with q | q
          · exact q
          · exact absurd (nI_le q (by omega)) c_12
        have hlt8j : j < 8 := Nat.lt_of_lt_of_le hltj hns8
        refine lv_aload_n hx hb dX7_lay_15 rfl (lv_at hl 2 rfl) ?_
        refine k_get (ci := 7) (C := RX7) (T := TX7) (N := 20) (v := .ref (md 9)) hx hb hown hG rfl kin_X7 hw.o 14 (by decide) wF_X7_38 rfl dX7_lay_16 ?_
        refine lv_iload hx hb dX7_lay_19 (lv_at hl 0 rfl) ?_
        refine lv_iconst (v := 0) hx hb dX7_lay_21 (by decide) ?_
        refine k_iast hx hb hG (hw.wt) hS (MA.i (mkb_iff.mp (by decide))) (vp_in_nI (n := j) hlt8j (by decide)) dX7_lay_22 (fun H1 locs hP1 z1 oq1 hS => ?_)
        rw [nI_clamp (by have := hlt8j; omega)] at hP1
        have hw := hw.setI hA (mkb_iff.mp (by decide)) (by decide) hP1 oq1
        refine lv_iload hx hb dX7_lay_23 (lv_at hl 0 rfl) ?_
        refine lv_iload_n hx hb dX7_lay_25 rfl (lv_at hl 5 rfl) ?_
        refine lv_icmp_eq (tgt := 213) hx hb dX7_lay_26 (by decide) (fun c_26 => ?_) (fun c_26 => ?_)
        · refine lv_iinc (v := (nI (j + 1))) (lv' := [(5, .int (nI (j + 1))), (4, .int (nI q)), (0, .ref (md 0)), (1, .int (nI i)), (2, .int ar), (3, .int lo)]) hx hb dX7_lay_213 hl (k := 0) rfl ((nI_succ j).symm) (by decide) rfl (fun ls hl => ?_)
          have hml : c.maxLocals = ls.size := hml9.trans hl.1.symm
          refine lv_goto (tgt := 6) hx hb dX7_lay_216 (by decide) ?_
          exact ih9 (j + 1) _ q _ _ (by omega) hltj hw (by rw [mLay_s, ← eP, if_pos (show bI (cLay P i lo j) = 0 from by unfold cLay; rw [if_pos c_26]; rfl)]) (by rw [mLay_s, ← eP, if_pos (show bI (cLay P i lo j) = 0 from by unfold cLay; rw [if_pos c_26]; rfl)]; exact eq) hS ls (lv_sub hl [0, 1, 2, 3, 4, 5] rfl)
        · refine lv_aload_n hx hb dX7_lay_29 rfl (lv_at hl 2 rfl) ?_
          refine lv_iload hx hb dX7_lay_30 (lv_at hl 0 rfl) ?_
          refine kc_i (kr_V (As := [.int (nI j)]) (rest := []) hx hb hml hown hG (c_X7_holds l D cy md (mset P 9 (upd (P 9) j 0)) co su j hlt8j) cf_X7_holds wM_X7_164 hw.o rfl hw ⟨rfl, rfl, by decide, by decide⟩ rfl rfl (Nat.le_of_ble_eq_true rfl) ⟨Nat.le_of_ble_eq_true rfl, Nat.le_of_ble_eq_true rfl⟩ dX7_lay_32) ?_
          refine lv_if_eq (tgt := 213) hx hb dX7_lay_35 (by decide) (fun c_35 => ?_) (fun c_35 => ?_)
          · have c_35 : bI (mHolds (P 0 1) (P (20 + j))) = 0 := by rw [mset_n (show (0 : Nat) ≠ 9 by omega), mset_n (show (20 + j : Nat) ≠ 9 by omega)] at c_35; exact c_35
            refine lv_iinc (v := (nI (j + 1))) (lv' := [(5, .int (nI (j + 1))), (4, .int (nI q)), (0, .ref (md 0)), (1, .int (nI i)), (2, .int ar), (3, .int lo)]) hx hb dX7_lay_213 hl (k := 0) rfl ((nI_succ j).symm) (by decide) rfl (fun ls hl => ?_)
            have hml : c.maxLocals = ls.size := hml9.trans hl.1.symm
            refine lv_goto (tgt := 6) hx hb dX7_lay_216 (by decide) ?_
            exact ih9 (j + 1) _ q _ _ (by omega) hltj hw (by rw [mLay_s, ← eP, if_pos (show bI (cLay P i lo j) = 0 from by unfold cLay; rw [if_neg c_26, if_pos c_35]; rfl)]) (by rw [mLay_s, ← eP, if_pos (show bI (cLay P i lo j) = 0 from by unfold cLay; rw [if_neg c_26, if_pos c_35]; rfl)]; exact eq) hS ls (lv_sub hl [0, 1, 2, 3, 4, 5] rfl)
          · have c_35 : ¬ bI (mHolds (P 0 1) (P (20 + j))) = 0 := by rw [mset_n (show (0 : Nat) ≠ 9 by omega), mset_n (show (20 + j : Nat) ≠ 9 by omega)] at c_35; exact c_35
            refine lv_aload_n hx hb dX7_lay_38 rfl (lv_at hl 2 rfl) ?_
            refine lv_iload_n hx hb dX7_lay_39 rfl (lv_at hl 3 rfl) ?_
            refine lv_iload hx hb dX7_lay_40 (lv_at hl 0 rfl) ?_
            refine lv_iconst (v := 0) hx hb dX7_lay_42 (by decide) ?_
            refine kc_i (kr_V (As := [.int (nI i), .int (nI j), .int 0]) (rest := []) hx hb hml hown hG (c_X7_sees l D cy md (mset P 9 (upd (P 9) j 0)) co su i j hi hlt8j 0) cf_X7_sees wM_X7_82 hw.o rfl hw ⟨rfl, rfl, by decide, by decide⟩ rfl rfl (Nat.le_of_ble_eq_true rfl) ⟨Nat.le_of_ble_eq_true rfl, Nat.le_of_ble_eq_true rfl⟩ dX7_lay_43) ?_
            refine lv_if_ne (tgt := 52) hx hb dX7_lay_46 (by decide) (fun c_46 => ?_) (fun c_46 => ?_)
            · have c_46 : ¬ bI (mSees (P (40 + i)) (P (10 + j)) 0) = 0 := by rw [mset_n (show (40 + i : Nat) ≠ 9 by omega), mset_n (show (10 + j : Nat) ≠ 9 by omega)] at c_46; exact c_46
              refine lv_aload_n hx hb dX7_lay_52 rfl (lv_at hl 2 rfl) ?_
              refine k_get (ci := 7) (C := RX7) (T := TX7) (N := 20) (v := .ref (md 5)) hx hb hown hG rfl kin_X7 (show va_P D vwCl [(md 0, .inr (7, [.int ((P 0) 0), .int ((P 0) 1), .int ((P 0) 2), .ref (md 1), .ref (md 2), .ref (md 3), .ref (md 4), .ref (md 5), .int ((P 0) 8), .int ((P 0) 9), .int ((P 0) 10), .ref (md 6), .ref (md 7), .ref (md 8), .ref (md 9), .int ((P 0) 15), .int ((P 0) 16), .int ((P 0) 17), .long co, .long su]))] _ from by have h := hw.o; unfold mO at h; rw [mset_n (show (0 : Nat) ≠ 9 by omega)] at h; exact h) 7 (by decide) wF_X7_25 rfl dX7_lay_53 ?_
              refine lv_iload_n hx hb dX7_lay_56 rfl (lv_at hl 3 rfl) ?_
              refine k_ald2 (v := (md (50 + i))) hx hb hG 6 rfl hw.a5 (vp_in_nI (n := i) hi (by decide)) (mo_ro hi) dX7_lay_57 ?_
              refine lv_iload hx hb dX7_lay_58 (lv_at hl 0 rfl) ?_
              refine k_ald2 (v := (md (60 + 8 * i + j))) hx hb hG 5 rfl (hw.ro hi) (vp_in_nI (n := j) hlt8j (by decide)) (mo_rw (i := i) hlt8j) dX7_lay_60 ?_
              refine lv_astore (lv' := [(6, .ref (md (60 + 8 * i + j))), (5, .int (nI j)), (4, .int (nI q)), (0, .ref (md 0)), (1, .int (nI i)), (2, .int ar), (3, .int lo)]) hx hb dX7_lay_61 hl (by decide) rfl (fun ls hl => ?_)
              have hml : c.maxLocals = ls.size := hml9.trans hl.1.symm
              refine lv_iload_n hx hb dX7_lay_63 rfl (lv_at hl 5 rfl) ?_
              refine lv_if_eq (tgt := 79) hx hb dX7_lay_64 (by decide) (fun c_64 => ?_) (fun c_64 => ?_)
              · refine lv_iconst (v := 0) hx hb dX7_lay_79 (by decide) ?_
                refine lv_istore (lv' := [(7, .int 0), (6, .ref (md (60 + 8 * i + j))), (5, .int (nI j)), (4, .int (nI q)), (0, .ref (md 0)), (1, .int (nI i)), (2, .int ar), (3, .int lo)]) hx hb dX7_lay_80 hl (by decide) rfl (fun ls hl => ?_)
                have hml : c.maxLocals = ls.size := hml9.trans hl.1.symm
                refine lv_aload_n hx hb dX7_lay_82 rfl (lv_at hl 4 rfl) ?_
                refine k_get (ci := 7) (C := RX7) (T := TX7) (N := 20) (v := .ref (md 6)) hx hb hown hG rfl kin_X7 (show va_P D vwCl [(md 0, .inr (7, [.int ((P 0) 0), .int ((P 0) 1), .int ((P 0) 2), .ref (md 1), .ref (md 2), .ref (md 3), .ref (md 4), .ref (md 5), .int ((P 0) 8), .int ((P 0) 9), .int ((P 0) 10), .ref (md 6), .ref (md 7), .ref (md 8), .ref (md 9), .int ((P 0) 15), .int ((P 0) 16), .int ((P 0) 17), .long co, .long su]))] _ from by have h := hw.o; unfold mO at h; rw [mset_n (show (0 : Nat) ≠ 9 by omega)] at h; exact h) 11 (by decide) wF_X7_28 rfl dX7_lay_83 ?_
                refine lv_iload hx hb dX7_lay_86 (lv_at hl 2 rfl) ?_
                refine lv_aload_n hx hb dX7_lay_88 rfl (lv_at hl 4 rfl) ?_
                refine lv_iload hx hb dX7_lay_89 (lv_at hl 2 rfl) ?_
                refine lv_aload_n hx hb dX7_lay_91 rfl (lv_at hl 4 rfl) ?_
                refine lv_iload hx hb dX7_lay_92 (lv_at hl 2 rfl) ?_
                refine kc_i (kr_V (As := [.int (nI j)]) (rest := [.int (nI j), .ref (md 0), .int (nI j), .ref (md 6)]) hx hb hml hown hG (c_X7_toldPhase l D cy md (mset P 9 (upd (P 9) j 0)) co su j hlt8j) cf_X7_toldPhase wM_X7_167 hw.o rfl hw ⟨rfl, rfl, by decide, by decide⟩ rfl rfl (Nat.le_of_ble_eq_true rfl) ⟨Nat.le_of_ble_eq_true rfl, Nat.le_of_ble_eq_true rfl⟩ dX7_lay_94) ?_
                refine lv_topi (fun tp etp => ?_)
                rw [mset_n (show (0 : Nat) ≠ 9 by omega), mset_n (show (10 + j : Nat) ≠ 9 by omega), mset_n (show (20 + j : Nat) ≠ 9 by omega)] at etp
                refine kc_i (kr_V (As := [.int (nI j), .int tp]) (rest := [.int (nI j), .ref (md 6)]) hx hb hml hown hG (c_X7_xAt l D cy md (mset P 9 (upd (P 9) j 0)) co su j hlt8j tp) cf_X7_xAt wM_X7_76 hw.o rfl hw ⟨rfl, rfl, by decide, by decide⟩ rfl rfl (Nat.le_of_ble_eq_true rfl) ⟨Nat.le_of_ble_eq_true rfl, Nat.le_of_ble_eq_true rfl⟩ dX7_lay_97) ?_
                refine lv_topi (fun xv exv => ?_)
                rw [mset_n (show (10 + j : Nat) ≠ 9 by omega)] at exv
                refine k_iast hx hb hG (show va_P D vwCl [(md 6, .inl (cy 0, 8, .inl (P 6)))] _ from by have h := hw.sx; rw [mset_n (show (6 : Nat) ≠ 9 by omega)] at h; exact h) hS (MA.i (mkb_iff.mp (by decide))) (vp_in_nI (n := j) hlt8j (by decide)) dX7_lay_100 (fun H1 locs hP1 z1 oq1 hS => ?_)
                rw [nI_clamp (by have := hlt8j; omega)] at hP1
                have hw := hw.setI hA (mkb_iff.mp (by decide)) (by decide) hP1 oq1
                refine lv_aload_n hx hb dX7_lay_101 rfl (lv_at hl 4 rfl) ?_
                refine k_get (ci := 7) (C := RX7) (T := TX7) (N := 20) (v := .ref (md 7)) hx hb hown hG rfl kin_X7 (show va_P D vwCl [(md 0, .inr (7, [.int ((P 0) 0), .int ((P 0) 1), .int ((P 0) 2), .ref (md 1), .ref (md 2), .ref (md 3), .ref (md 4), .ref (md 5), .int ((P 0) 8), .int ((P 0) 9), .int ((P 0) 10), .ref (md 6), .ref (md 7), .ref (md 8), .ref (md 9), .int ((P 0) 15), .int ((P 0) 16), .int ((P 0) 17), .long co, .long su]))] _ from by have h := hw.o; unfold mO at h; rw [mset_n (show (0 : Nat) ≠ 6 by omega), mset_n (show (0 : Nat) ≠ 9 by omega)] at h; exact h) 12 (by decide) wF_X7_32 rfl dX7_lay_102 ?_
                refine lv_iload hx hb dX7_lay_105 (lv_at hl 2 rfl) ?_
                refine lv_aload_n hx hb dX7_lay_107 rfl (lv_at hl 4 rfl) ?_
                refine lv_iload hx hb dX7_lay_108 (lv_at hl 2 rfl) ?_
                refine lv_aload_n hx hb dX7_lay_110 rfl (lv_at hl 4 rfl) ?_
                refine lv_iload hx hb dX7_lay_111 (lv_at hl 2 rfl) ?_
                refine kc_i (kr_V (As := [.int (nI j)]) (rest := [.int (nI j), .ref (md 0), .int (nI j), .ref (md 7)]) hx hb hml hown hG (c_X7_toldPhase l D cy md (mset (mset P 9 (upd (P 9) j 0)) 6 (upd (P 6) j xv)) co su j hlt8j) cf_X7_toldPhase wM_X7_167 hw.o rfl hw ⟨rfl, rfl, by decide, by decide⟩ rfl rfl (Nat.le_of_ble_eq_true rfl) ⟨Nat.le_of_ble_eq_true rfl, Nat.le_of_ble_eq_true rfl⟩ dX7_lay_113) ?_
                refine lv_topi (fun tq etq => ?_)
                rw [mset_n (show (0 : Nat) ≠ 6 by omega), mset_n (show (0 : Nat) ≠ 9 by omega), mset_n (show (10 + j : Nat) ≠ 6 by omega), mset_n (show (10 + j : Nat) ≠ 9 by omega), mset_n (show (20 + j : Nat) ≠ 6 by omega), mset_n (show (20 + j : Nat) ≠ 9 by omega)] at etq
                refine kc_i (kr_V (As := [.int (nI j), .int tq]) (rest := [.int (nI j), .ref (md 7)]) hx hb hml hown hG (c_X7_yAt l D cy md (mset (mset P 9 (upd (P 9) j 0)) 6 (upd (P 6) j xv)) co su j hlt8j tq) cf_X7_yAt wM_X7_73 hw.o rfl hw ⟨rfl, rfl, by decide, by decide⟩ rfl rfl (Nat.le_of_ble_eq_true rfl) ⟨Nat.le_of_ble_eq_true rfl, Nat.le_of_ble_eq_true rfl⟩ dX7_lay_116) ?_
                refine lv_topi (fun yv eyv => ?_)
                rw [mset_n (show (10 + j : Nat) ≠ 6 by omega), mset_n (show (10 + j : Nat) ≠ 9 by omega)] at eyv
                refine k_iast hx hb hG (show va_P D vwCl [(md 7, .inl (cy 0, 8, .inl (P 7)))] _ from by have h := hw.sy; rw [mset_n (show (7 : Nat) ≠ 6 by omega), mset_n (show (7 : Nat) ≠ 9 by omega)] at h; exact h) hS (MA.i (mkb_iff.mp (by decide))) (vp_in_nI (n := j) hlt8j (by decide)) dX7_lay_119 (fun H1 locs hP1 z1 oq1 hS => ?_)
                rw [nI_clamp (by have := hlt8j; omega)] at hP1
                have hw := hw.setI hA (mkb_iff.mp (by decide)) (by decide) hP1 oq1
                refine lv_aload_n hx hb dX7_lay_120 rfl (lv_at hl 4 rfl) ?_
                refine k_get (ci := 7) (C := RX7) (T := TX7) (N := 20) (v := .ref (md 8)) hx hb hown hG rfl kin_X7 (show va_P D vwCl [(md 0, .inr (7, [.int ((P 0) 0), .int ((P 0) 1), .int ((P 0) 2), .ref (md 1), .ref (md 2), .ref (md 3), .ref (md 4), .ref (md 5), .int ((P 0) 8), .int ((P 0) 9), .int ((P 0) 10), .ref (md 6), .ref (md 7), .ref (md 8), .ref (md 9), .int ((P 0) 15), .int ((P 0) 16), .int ((P 0) 17), .long co, .long su]))] _ from by have h := hw.o; unfold mO at h; rw [mset_n (show (0 : Nat) ≠ 7 by omega), mset_n (show (0 : Nat) ≠ 6 by omega), mset_n (show (0 : Nat) ≠ 9 by omega)] at h; exact h) 13 (by decide) wF_X7_35 rfl dX7_lay_121 ?_
                refine lv_iload hx hb dX7_lay_124 (lv_at hl 2 rfl) ?_
                refine lv_iload hx hb dX7_lay_126 (lv_at hl 0 rfl) ?_
                refine lv_if_eq (tgt := 146) hx hb dX7_lay_128 (by decide) (fun _ => ?_) (fun q9 => absurd (show (0 : Int32) = 0 by decide) q9)
                refine lv_aload_n hx hb dX7_lay_146 rfl (lv_at hl 4 rfl) ?_
                refine lv_iload_n hx hb dX7_lay_147 rfl (lv_at hl 5 rfl) ?_
                refine lv_iload hx hb dX7_lay_148 (lv_at hl 2 rfl) ?_
                refine kc_i (kr_V (As := [.int (nI i), .int (nI j)]) (rest := [.int (nI j), .ref (md 8)]) hx hb hml hown hG (c_X7_codeOf l D cy md (mset (mset (mset P 9 (upd (P 9) j 0)) 6 (upd (P 6) j xv)) 7 (upd (P 7) j yv)) co su i j hi hlt8j) cf_X7_codeOf wM_X7_170 hw.o rfl hw ⟨rfl, rfl, by decide, by decide⟩ rfl rfl (Nat.le_of_ble_eq_true rfl) ⟨Nat.le_of_ble_eq_true rfl, Nat.le_of_ble_eq_true rfl⟩ dX7_lay_150) ?_
                refine lv_topi (fun cd ecd => ?_)
                rw [mset_n (show (0 : Nat) ≠ 7 by omega), mset_n (show (0 : Nat) ≠ 6 by omega), mset_n (show (0 : Nat) ≠ 9 by omega), mset_n (show (40 + i : Nat) ≠ 7 by omega), mset_n (show (40 + i : Nat) ≠ 6 by omega), mset_n (show (40 + i : Nat) ≠ 9 by omega), mset_n (show (10 + j : Nat) ≠ 7 by omega), mset_n (show (10 + j : Nat) ≠ 6 by omega), mset_n (show (10 + j : Nat) ≠ 9 by omega)] at ecd
                refine lv_aload_n hx hb dX7_lay_153 rfl (lv_at hl 4 rfl) ?_
                refine lv_iload hx hb dX7_lay_154 (lv_at hl 2 rfl) ?_
                refine kc_i (kr_V (As := [.int (nI j)]) (rest := [.int cd, .int (nI j), .ref (md 8)]) hx hb hml hown hG (c_X7_toldOffset l D cy md (mset (mset (mset P 9 (upd (P 9) j 0)) 6 (upd (P 6) j xv)) 7 (upd (P 7) j yv)) co su j hlt8j) cf_X7_toldOffset wM_X7_173 hw.o rfl hw ⟨rfl, rfl, by decide, by decide⟩ rfl rfl (Nat.le_of_ble_eq_true rfl) ⟨Nat.le_of_ble_eq_true rfl, Nat.le_of_ble_eq_true rfl⟩ dX7_lay_156) ?_
                refine lv_topi (fun to eto => ?_)
                rw [mset_n (show (0 : Nat) ≠ 7 by omega), mset_n (show (0 : Nat) ≠ 6 by omega), mset_n (show (0 : Nat) ≠ 9 by omega), mset_n (show (20 + j : Nat) ≠ 7 by omega), mset_n (show (20 + j : Nat) ≠ 6 by omega), mset_n (show (20 + j : Nat) ≠ 9 by omega)] at eto
                refine lv_isub hx hb dX7_lay_159 ?_
                refine lv_aload_n hx hb dX7_lay_160 rfl (lv_at hl 4 rfl) ?_
                refine lv_iload_n hx hb dX7_lay_161 rfl (lv_at hl 5 rfl) ?_
                refine lv_iload hx hb dX7_lay_162 (lv_at hl 2 rfl) ?_
                refine kc_i (kr_V (As := [.int (nI i), .int (nI j)]) (rest := [.int (cd - to), .int (nI j), .ref (md 8)]) hx hb hml hown hG (c_X7_correction l D cy md (mset (mset (mset P 9 (upd (P 9) j 0)) 6 (upd (P 6) j xv)) 7 (upd (P 7) j yv)) co su ns hns8 ens (mRef_of (fun k hk => by rw [mset_n (by omega), mset_n (by omega), mset_n (by omega)]) hre) i j hi hlt8j) cf_X7_correction wM_X7_176 hw.o rfl hw ⟨rfl, rfl, by decide, by decide⟩ rfl rfl (Nat.le_of_ble_eq_true rfl) ⟨Nat.le_of_ble_eq_true rfl, Nat.le_of_ble_eq_true rfl⟩ dX7_lay_164) ?_
                refine lv_topi (fun cr ecr => ?_)
                rw [mCorr_of (N := P) (by rw [mset_n (by omega), mset_n (by omega), mset_n (by omega)]) (fun k hk => by rw [mset_n (by omega), mset_n (by omega), mset_n (by omega)])] at ecr
                refine lv_isub hx hb dX7_lay_167 ?_
                refine lv_topi (fun pv epv => ?_)
                refine k_iast hx hb hG (show va_P D vwCl [(md 8, .inl (cy 0, 8, .inl (P 8)))] _ from by have h := hw.ps; rw [mset_n (show (8 : Nat) ≠ 7 by omega), mset_n (show (8 : Nat) ≠ 6 by omega), mset_n (show (8 : Nat) ≠ 9 by omega)] at h; exact h) hS (MA.i (mkb_iff.mp (by decide))) (vp_in_nI (n := j) hlt8j (by decide)) dX7_lay_168 (fun H1 locs hP1 z1 oq1 hS => ?_)
                rw [nI_clamp (by have := hlt8j; omega)] at hP1
                have hw := hw.setI hA (mkb_iff.mp (by decide)) (by decide) hP1 oq1
                refine lv_aload_n hx hb dX7_lay_169 rfl (lv_at hl 4 rfl) ?_
                refine k_get (ci := 7) (C := RX7) (T := TX7) (N := 20) (v := .ref (md 9)) hx hb hown hG rfl kin_X7 (show va_P D vwCl [(md 0, .inr (7, [.int ((P 0) 0), .int ((P 0) 1), .int ((P 0) 2), .ref (md 1), .ref (md 2), .ref (md 3), .ref (md 4), .ref (md 5), .int ((P 0) 8), .int ((P 0) 9), .int ((P 0) 10), .ref (md 6), .ref (md 7), .ref (md 8), .ref (md 9), .int ((P 0) 15), .int ((P 0) 16), .int ((P 0) 17), .long co, .long su]))] _ from by have h := hw.o; unfold mO at h; rw [mset_n (show (0 : Nat) ≠ 8 by omega), mset_n (show (0 : Nat) ≠ 7 by omega), mset_n (show (0 : Nat) ≠ 6 by omega), mset_n (show (0 : Nat) ≠ 9 by omega)] at h; exact h) 14 (by decide) wF_X7_38 rfl dX7_lay_170 ?_
                refine lv_iload hx hb dX7_lay_173 (lv_at hl 2 rfl) ?_
                refine lv_iload hx hb dX7_lay_175 (lv_at hl 0 rfl) ?_
                refine lv_if_eq (tgt := 184) hx hb dX7_lay_177 (by decide) (fun _ => ?_) (fun q9 => absurd (show (0 : Int32) = 0 by decide) q9)
                refine lv_aload_n hx hb dX7_lay_184 rfl (lv_at hl 4 rfl) ?_
                refine k_get (ci := 7) (C := RX7) (T := TX7) (N := 20) (v := .ref (md 7)) hx hb hown hG rfl kin_X7 (show va_P D vwCl [(md 0, .inr (7, [.int ((P 0) 0), .int ((P 0) 1), .int ((P 0) 2), .ref (md 1), .ref (md 2), .ref (md 3), .ref (md 4), .ref (md 5), .int ((P 0) 8), .int ((P 0) 9), .int ((P 0) 10), .ref (md 6), .ref (md 7), .ref (md 8), .ref (md 9), .int ((P 0) 15), .int ((P 0) 16), .int ((P 0) 17), .long co, .long su]))] _ from by have h := hw.o; unfold mO at h; rw [mset_n (show (0 : Nat) ≠ 8 by omega), mset_n (show (0 : Nat) ≠ 7 by omega), mset_n (show (0 : Nat) ≠ 6 by omega), mset_n (show (0 : Nat) ≠ 9 by omega)] at h; exact h) 12 (by decide) wF_X7_32 rfl dX7_lay_185 ?_
                refine lv_iload hx hb dX7_lay_188 (lv_at hl 2 rfl) ?_
                refine k_iald (v := ((upd (P 7) j yv) j)) hx hb hG (show va_P D vwCl [(md 7, .inl (cy 0, 8, .inl (upd (P 7) j yv)))] _ from by have h := hw.sy; rw [mset_n (show (7 : Nat) ≠ 8 by omega), mset_s] at h; exact h) (vp_in_nI (n := j) hlt8j (by decide)) (congrArg (upd (P 7) j yv) (nI_clamp (by have := hlt8j; omega))) dX7_lay_190 ?_
                refine lv_aload_n hx hb dX7_lay_191 rfl (lv_at hl 4 rfl) ?_
                refine k_get (ci := 7) (C := RX7) (T := TX7) (N := 20) (v := .ref (md 6)) hx hb hown hG rfl kin_X7 (show va_P D vwCl [(md 0, .inr (7, [.int ((P 0) 0), .int ((P 0) 1), .int ((P 0) 2), .ref (md 1), .ref (md 2), .ref (md 3), .ref (md 4), .ref (md 5), .int ((P 0) 8), .int ((P 0) 9), .int ((P 0) 10), .ref (md 6), .ref (md 7), .ref (md 8), .ref (md 9), .int ((P 0) 15), .int ((P 0) 16), .int ((P 0) 17), .long co, .long su]))] _ from by have h := hw.o; unfold mO at h; rw [mset_n (show (0 : Nat) ≠ 8 by omega), mset_n (show (0 : Nat) ≠ 7 by omega), mset_n (show (0 : Nat) ≠ 6 by omega), mset_n (show (0 : Nat) ≠ 9 by omega)] at h; exact h) 11 (by decide) wF_X7_28 rfl dX7_lay_192 ?_
                refine lv_iload hx hb dX7_lay_195 (lv_at hl 2 rfl) ?_
                refine k_iald (v := ((upd (P 6) j xv) j)) hx hb hG (show va_P D vwCl [(md 6, .inl (cy 0, 8, .inl (upd (P 6) j xv)))] _ from by have h := hw.sx; rw [mset_n (show (6 : Nat) ≠ 8 by omega), mset_n (show (6 : Nat) ≠ 7 by omega), mset_s] at h; exact h) (vp_in_nI (n := j) hlt8j (by decide)) (congrArg (upd (P 6) j xv) (nI_clamp (by have := hlt8j; omega))) dX7_lay_197 ?_
                refine k_mabs hx hb hml hown hG wM_X7_61 (Nat.le_of_ble_eq_true rfl) (Nat.le_of_ble_eq_true rfl) (Nat.le_of_ble_eq_true rfl) (Nat.le_of_ble_eq_true rfl) dX7_lay_198 ?_
                refine lv_icmp_le (tgt := 208) hx hb dX7_lay_201 (by decide) (fun c_201 => ?_) (fun c_201 => ?_)
                · have c_201 : yv ≤ pAbs xv := by rw [upd_at, upd_at] at c_201; exact c_201
                  refine lv_iconst (v := 1) hx hb dX7_lay_208 (by decide) ?_
                  refine lv_topi (fun wv ewv => ?_)
                  refine k_iast hx hb hG (show va_P D vwCl [(md 9, .inl (cy 0, 8, .inl (upd (P 9) j 0)))] _ from by have h := hw.wt; rw [mset_n (show (9 : Nat) ≠ 8 by omega), mset_n (show (9 : Nat) ≠ 7 by omega), mset_n (show (9 : Nat) ≠ 6 by omega), mset_s] at h; exact h) hS (MA.i (mkb_iff.mp (by decide))) (vp_in_nI (n := j) hlt8j (by decide)) dX7_lay_209 (fun H1 locs hP1 z1 oq1 hS => ?_)
                  rw [nI_clamp (by have := hlt8j; omega)] at hP1
                  have hw := hw.setI hA (mkb_iff.mp (by decide)) (by decide) hP1 oq1
                  have e1 : xv = mLayX P j := by rw [exv, etp]; rfl
                  have e2 : yv = mLayY P j := by rw [eyv, etq]; rfl
                  have efd : mFixd P i j ar = false := by unfold mFixd; rw [if_pos c_64]
                  have e3 : pv = mLayP P ns i ar j := by unfold mLayP; rw [efd, if_neg (by decide), epv, ecd, eto, ecr]
                  have e4 : wv = mLayW P i ar j := by unfold mLayW; rw [efd, if_neg (by decide), ← e1, ← e2, ewv, if_pos c_201]
                  refine lv_iinc (v := (nI (q + 1))) (lv' := [(4, .int (nI (q + 1))), (7, .int 0), (6, .ref (md (60 + 8 * i + j))), (5, .int (nI j)), (0, .ref (md 0)), (1, .int (nI i)), (2, .int ar), (3, .int lo)]) hx hb dX7_lay_210 hl (k := 3) rfl ((nI_succ q).symm) (by decide) rfl (fun ls hl => ?_)
                  have hml : c.maxLocals = ls.size := hml9.trans hl.1.symm
                  refine lv_iinc (v := (nI (j + 1))) (lv' := [(5, .int (nI (j + 1))), (4, .int (nI (q + 1))), (7, .int 0), (6, .ref (md (60 + 8 * i + j))), (0, .ref (md 0)), (1, .int (nI i)), (2, .int ar), (3, .int lo)]) hx hb dX7_lay_213 hl (k := 3) rfl ((nI_succ j).symm) (by decide) rfl (fun ls hl => ?_)
                  have hml : c.maxLocals = ls.size := hml9.trans hl.1.symm
                  refine lv_goto (tgt := 6) hx hb dX7_lay_216 (by decide) ?_
                  exact ih9 (j + 1) _ (q + 1) _ _ (by omega) hltj hw (by rw [mLay_s, ← eP, if_neg (show ¬ bI (cLay P i lo j) = 0 from by unfold cLay; rw [if_neg c_26, if_neg c_35, if_neg c_46]; decide)]; unfold mLayS; rw [← e1, ← e2, ← e3, ← e4]) (by rw [mLay_s, ← eP, if_neg (show ¬ bI (cLay P i lo j) = 0 from by unfold cLay; rw [if_neg c_26, if_neg c_35, if_neg c_46]; decide), eq]) hS ls (lv_sub hl [0, 1, 4, 5, 6, 7] rfl)
                · have c_201 : ¬ yv ≤ pAbs xv := by rw [upd_at, upd_at] at c_201; exact c_201
                  refine lv_iconst (v := 2) hx hb dX7_lay_204 (by decide) ?_
                  refine lv_goto (tgt := 209) hx hb dX7_lay_205 (by decide) ?_
                  refine lv_topi (fun wv ewv => ?_)
                  refine k_iast hx hb hG (show va_P D vwCl [(md 9, .inl (cy 0, 8, .inl (upd (P 9) j 0)))] _ from by have h := hw.wt; rw [mset_n (show (9 : Nat) ≠ 8 by omega), mset_n (show (9 : Nat) ≠ 7 by omega), mset_n (show (9 : Nat) ≠ 6 by omega), mset_s] at h; exact h) hS (MA.i (mkb_iff.mp (by decide))) (vp_in_nI (n := j) hlt8j (by decide)) dX7_lay_209 (fun H1 locs hP1 z1 oq1 hS => ?_)
                  rw [nI_clamp (by have := hlt8j; omega)] at hP1
                  have hw := hw.setI hA (mkb_iff.mp (by decide)) (by decide) hP1 oq1
                  have e1 : xv = mLayX P j := by rw [exv, etp]; rfl
                  have e2 : yv = mLayY P j := by rw [eyv, etq]; rfl
                  have efd : mFixd P i j ar = false := by unfold mFixd; rw [if_pos c_64]
                  have e3 : pv = mLayP P ns i ar j := by unfold mLayP; rw [efd, if_neg (by decide), epv, ecd, eto, ecr]
                  have e4 : wv = mLayW P i ar j := by unfold mLayW; rw [efd, if_neg (by decide), ← e1, ← e2, ewv, if_neg c_201]
                  refine lv_iinc (v := (nI (q + 1))) (lv' := [(4, .int (nI (q + 1))), (7, .int 0), (6, .ref (md (60 + 8 * i + j))), (5, .int (nI j)), (0, .ref (md 0)), (1, .int (nI i)), (2, .int ar), (3, .int lo)]) hx hb dX7_lay_210 hl (k := 3) rfl ((nI_succ q).symm) (by decide) rfl (fun ls hl => ?_)
                  have hml : c.maxLocals = ls.size := hml9.trans hl.1.symm
                  refine lv_iinc (v := (nI (j + 1))) (lv' := [(5, .int (nI (j + 1))), (4, .int (nI (q + 1))), (7, .int 0), (6, .ref (md (60 + 8 * i + j))), (0, .ref (md 0)), (1, .int (nI i)), (2, .int ar), (3, .int lo)]) hx hb dX7_lay_213 hl (k := 3) rfl ((nI_succ j).symm) (by decide) rfl (fun ls hl => ?_)
                  have hml : c.maxLocals = ls.size := hml9.trans hl.1.symm
                  refine lv_goto (tgt := 6) hx hb dX7_lay_216 (by decide) ?_
                  exact ih9 (j + 1) _ (q + 1) _ _ (by omega) hltj hw (by rw [mLay_s, ← eP, if_neg (show ¬ bI (cLay P i lo j) = 0 from by unfold cLay; rw [if_neg c_26, if_neg c_35, if_neg c_46]; decide)]; unfold mLayS; rw [← e1, ← e2, ← e3, ← e4]) (by rw [mLay_s, ← eP, if_neg (show ¬ bI (cLay P i lo j) = 0 from by unfold cLay; rw [if_neg c_26, if_neg c_35, if_neg c_46]; decide), eq]) hS ls (lv_sub hl [0, 1, 4, 5, 6, 7] rfl)
              · refine lv_aload hx hb dX7_lay_67 (lv_at hl 0 rfl) ?_
                refine lv_iconst (v := 5) hx hb dX7_lay_69 (by decide) ?_
                refine k_iald (v := ((P (60 + 8 * i + j)) 5)) hx hb hG (show va_P D vwCl [(md (60 + 8 * i + j), .inl (cy 0, 12, .inl (P (60 + 8 * i + j))))] _ from by have h := hw.rw hi hlt8j; rw [mset_n (show (60 + 8 * i + j : Nat) ≠ 9 by omega)] at h; exact h) (show vp_in (nI 5) 12 from vp_in_nI (by decide) (by decide)) (congrArg (P (60 + 8 * i + j)) (clI 5 (by decide))) dX7_lay_70 ?_
                refine lv_iconst (v := 1) hx hb dX7_lay_71 (by decide) ?_
                refine lv_icmp_ne (tgt := 79) hx hb dX7_lay_72 (by decide) (fun c_72 => ?_) (fun c_72 => ?_)
                · refine lv_iconst (v := 0) hx hb dX7_lay_79 (by decide) ?_
                  refine lv_istore (lv' := [(7, .int 0), (6, .ref (md (60 + 8 * i + j))), (5, .int (nI j)), (4, .int (nI q)), (0, .ref (md 0)), (1, .int (nI i)), (2, .int ar), (3, .int lo)]) hx hb dX7_lay_80 hl (by decide) rfl (fun ls hl => ?_)
                  have hml : c.maxLocals = ls.size := hml9.trans hl.1.symm
                  refine lv_aload_n hx hb dX7_lay_82 rfl (lv_at hl 4 rfl) ?_
                  refine k_get (ci := 7) (C := RX7) (T := TX7) (N := 20) (v := .ref (md 6)) hx hb hown hG rfl kin_X7 (show va_P D vwCl [(md 0, .inr (7, [.int ((P 0) 0), .int ((P 0) 1), .int ((P 0) 2), .ref (md 1), .ref (md 2), .ref (md 3), .ref (md 4), .ref (md 5), .int ((P 0) 8), .int ((P 0) 9), .int ((P 0) 10), .ref (md 6), .ref (md 7), .ref (md 8), .ref (md 9), .int ((P 0) 15), .int ((P 0) 16), .int ((P 0) 17), .long co, .long su]))] _ from by have h := hw.o; unfold mO at h; rw [mset_n (show (0 : Nat) ≠ 9 by omega)] at h; exact h) 11 (by decide) wF_X7_28 rfl dX7_lay_83 ?_
                  refine lv_iload hx hb dX7_lay_86 (lv_at hl 2 rfl) ?_
                  refine lv_aload_n hx hb dX7_lay_88 rfl (lv_at hl 4 rfl) ?_
                  refine lv_iload hx hb dX7_lay_89 (lv_at hl 2 rfl) ?_
                  refine lv_aload_n hx hb dX7_lay_91 rfl (lv_at hl 4 rfl) ?_
                  refine lv_iload hx hb dX7_lay_92 (lv_at hl 2 rfl) ?_
                  refine kc_i (kr_V (As := [.int (nI j)]) (rest := [.int (nI j), .ref (md 0), .int (nI j), .ref (md 6)]) hx hb hml hown hG (c_X7_toldPhase l D cy md (mset P 9 (upd (P 9) j 0)) co su j hlt8j) cf_X7_toldPhase wM_X7_167 hw.o rfl hw ⟨rfl, rfl, by decide, by decide⟩ rfl rfl (Nat.le_of_ble_eq_true rfl) ⟨Nat.le_of_ble_eq_true rfl, Nat.le_of_ble_eq_true rfl⟩ dX7_lay_94) ?_
                  refine lv_topi (fun tp etp => ?_)
                  rw [mset_n (show (0 : Nat) ≠ 9 by omega), mset_n (show (10 + j : Nat) ≠ 9 by omega), mset_n (show (20 + j : Nat) ≠ 9 by omega)] at etp
                  refine kc_i (kr_V (As := [.int (nI j), .int tp]) (rest := [.int (nI j), .ref (md 6)]) hx hb hml hown hG (c_X7_xAt l D cy md (mset P 9 (upd (P 9) j 0)) co su j hlt8j tp) cf_X7_xAt wM_X7_76 hw.o rfl hw ⟨rfl, rfl, by decide, by decide⟩ rfl rfl (Nat.le_of_ble_eq_true rfl) ⟨Nat.le_of_ble_eq_true rfl, Nat.le_of_ble_eq_true rfl⟩ dX7_lay_97) ?_
                  refine lv_topi (fun xv exv => ?_)
                  rw [mset_n (show (10 + j : Nat) ≠ 9 by omega)] at exv
                  refine k_iast hx hb hG (show va_P D vwCl [(md 6, .inl (cy 0, 8, .inl (P 6)))] _ from by have h := hw.sx; rw [mset_n (show (6 : Nat) ≠ 9 by omega)] at h; exact h) hS (MA.i (mkb_iff.mp (by decide))) (vp_in_nI (n := j) hlt8j (by decide)) dX7_lay_100 (fun H1 locs hP1 z1 oq1 hS => ?_)
                  rw [nI_clamp (by have := hlt8j; omega)] at hP1
                  have hw := hw.setI hA (mkb_iff.mp (by decide)) (by decide) hP1 oq1
                  refine lv_aload_n hx hb dX7_lay_101 rfl (lv_at hl 4 rfl) ?_
                  refine k_get (ci := 7) (C := RX7) (T := TX7) (N := 20) (v := .ref (md 7)) hx hb hown hG rfl kin_X7 (show va_P D vwCl [(md 0, .inr (7, [.int ((P 0) 0), .int ((P 0) 1), .int ((P 0) 2), .ref (md 1), .ref (md 2), .ref (md 3), .ref (md 4), .ref (md 5), .int ((P 0) 8), .int ((P 0) 9), .int ((P 0) 10), .ref (md 6), .ref (md 7), .ref (md 8), .ref (md 9), .int ((P 0) 15), .int ((P 0) 16), .int ((P 0) 17), .long co, .long su]))] _ from by have h := hw.o; unfold mO at h; rw [mset_n (show (0 : Nat) ≠ 6 by omega), mset_n (show (0 : Nat) ≠ 9 by omega)] at h; exact h) 12 (by decide) wF_X7_32 rfl dX7_lay_102 ?_
                  refine lv_iload hx hb dX7_lay_105 (lv_at hl 2 rfl) ?_
                  refine lv_aload_n hx hb dX7_lay_107 rfl (lv_at hl 4 rfl) ?_
                  refine lv_iload hx hb dX7_lay_108 (lv_at hl 2 rfl) ?_
                  refine lv_aload_n hx hb dX7_lay_110 rfl (lv_at hl 4 rfl) ?_
                  refine lv_iload hx hb dX7_lay_111 (lv_at hl 2 rfl) ?_
                  refine kc_i (kr_V (As := [.int (nI j)]) (rest := [.int (nI j), .ref (md 0), .int (nI j), .ref (md 7)]) hx hb hml hown hG (c_X7_toldPhase l D cy md (mset (mset P 9 (upd (P 9) j 0)) 6 (upd (P 6) j xv)) co su j hlt8j) cf_X7_toldPhase wM_X7_167 hw.o rfl hw ⟨rfl, rfl, by decide, by decide⟩ rfl rfl (Nat.le_of_ble_eq_true rfl) ⟨Nat.le_of_ble_eq_true rfl, Nat.le_of_ble_eq_true rfl⟩ dX7_lay_113) ?_
                  refine lv_topi (fun tq etq => ?_)
                  rw [mset_n (show (0 : Nat) ≠ 6 by omega), mset_n (show (0 : Nat) ≠ 9 by omega), mset_n (show (10 + j : Nat) ≠ 6 by omega), mset_n (show (10 + j : Nat) ≠ 9 by omega), mset_n (show (20 + j : Nat) ≠ 6 by omega), mset_n (show (20 + j : Nat) ≠ 9 by omega)] at etq
                  refine kc_i (kr_V (As := [.int (nI j), .int tq]) (rest := [.int (nI j), .ref (md 7)]) hx hb hml hown hG (c_X7_yAt l D cy md (mset (mset P 9 (upd (P 9) j 0)) 6 (upd (P 6) j xv)) co su j hlt8j tq) cf_X7_yAt wM_X7_73 hw.o rfl hw ⟨rfl, rfl, by decide, by decide⟩ rfl rfl (Nat.le_of_ble_eq_true rfl) ⟨Nat.le_of_ble_eq_true rfl, Nat.le_of_ble_eq_true rfl⟩ dX7_lay_116) ?_
                  refine lv_topi (fun yv eyv => ?_)
                  rw [mset_n (show (10 + j : Nat) ≠ 6 by omega), mset_n (show (10 + j : Nat) ≠ 9 by omega)] at eyv
                  refine k_iast hx hb hG (show va_P D vwCl [(md 7, .inl (cy 0, 8, .inl (P 7)))] _ from by have h := hw.sy; rw [mset_n (show (7 : Nat) ≠ 6 by omega), mset_n (show (7 : Nat) ≠ 9 by omega)] at h; exact h) hS (MA.i (mkb_iff.mp (by decide))) (vp_in_nI (n := j) hlt8j (by decide)) dX7_lay_119 (fun H1 locs hP1 z1 oq1 hS => ?_)
                  rw [nI_clamp (by have := hlt8j; omega)] at hP1
                  have hw := hw.setI hA (mkb_iff.mp (by decide)) (by decide) hP1 oq1
                  refine lv_aload_n hx hb dX7_lay_120 rfl (lv_at hl 4 rfl) ?_
                  refine k_get (ci := 7) (C := RX7) (T := TX7) (N := 20) (v := .ref (md 8)) hx hb hown hG rfl kin_X7 (show va_P D vwCl [(md 0, .inr (7, [.int ((P 0) 0), .int ((P 0) 1), .int ((P 0) 2), .ref (md 1), .ref (md 2), .ref (md 3), .ref (md 4), .ref (md 5), .int ((P 0) 8), .int ((P 0) 9), .int ((P 0) 10), .ref (md 6), .ref (md 7), .ref (md 8), .ref (md 9), .int ((P 0) 15), .int ((P 0) 16), .int ((P 0) 17), .long co, .long su]))] _ from by have h := hw.o; unfold mO at h; rw [mset_n (show (0 : Nat) ≠ 7 by omega), mset_n (show (0 : Nat) ≠ 6 by omega), mset_n (show (0 : Nat) ≠ 9 by omega)] at h; exact h) 13 (by decide) wF_X7_35 rfl dX7_lay_121 ?_
                  refine lv_iload hx hb dX7_lay_124 (lv_at hl 2 rfl) ?_
                  refine lv_iload hx hb dX7_lay_126 (lv_at hl 0 rfl) ?_
                  refine lv_if_eq (tgt := 146) hx hb dX7_lay_128 (by decide) (fun _ => ?_) (fun q9 => absurd (show (0 : Int32) = 0 by decide) q9)
                  refine lv_aload_n hx hb dX7_lay_146 rfl (lv_at hl 4 rfl) ?_
                  refine lv_iload_n hx hb dX7_lay_147 rfl (lv_at hl 5 rfl) ?_
                  refine lv_iload hx hb dX7_lay_148 (lv_at hl 2 rfl) ?_
                  refine kc_i (kr_V (As := [.int (nI i), .int (nI j)]) (rest := [.int (nI j), .ref (md 8)]) hx hb hml hown hG (c_X7_codeOf l D cy md (mset (mset (mset P 9 (upd (P 9) j 0)) 6 (upd (P 6) j xv)) 7 (upd (P 7) j yv)) co su i j hi hlt8j) cf_X7_codeOf wM_X7_170 hw.o rfl hw ⟨rfl, rfl, by decide, by decide⟩ rfl rfl (Nat.le_of_ble_eq_true rfl) ⟨Nat.le_of_ble_eq_true rfl, Nat.le_of_ble_eq_true rfl⟩ dX7_lay_150) ?_
                  refine lv_topi (fun cd ecd => ?_)
                  rw [mset_n (show (0 : Nat) ≠ 7 by omega), mset_n (show (0 : Nat) ≠ 6 by omega), mset_n (show (0 : Nat) ≠ 9 by omega), mset_n (show (40 + i : Nat) ≠ 7 by omega), mset_n (show (40 + i : Nat) ≠ 6 by omega), mset_n (show (40 + i : Nat) ≠ 9 by omega), mset_n (show (10 + j : Nat) ≠ 7 by omega), mset_n (show (10 + j : Nat) ≠ 6 by omega), mset_n (show (10 + j : Nat) ≠ 9 by omega)] at ecd
                  refine lv_aload_n hx hb dX7_lay_153 rfl (lv_at hl 4 rfl) ?_
                  refine lv_iload hx hb dX7_lay_154 (lv_at hl 2 rfl) ?_
                  refine kc_i (kr_V (As := [.int (nI j)]) (rest := [.int cd, .int (nI j), .ref (md 8)]) hx hb hml hown hG (c_X7_toldOffset l D cy md (mset (mset (mset P 9 (upd (P 9) j 0)) 6 (upd (P 6) j xv)) 7 (upd (P 7) j yv)) co su j hlt8j) cf_X7_toldOffset wM_X7_173 hw.o rfl hw ⟨rfl, rfl, by decide, by decide⟩ rfl rfl (Nat.le_of_ble_eq_true rfl) ⟨Nat.le_of_ble_eq_true rfl, Nat.le_of_ble_eq_true rfl⟩ dX7_lay_156) ?_
                  refine lv_topi (fun to eto => ?_)
                  rw [mset_n (show (0 : Nat) ≠ 7 by omega), mset_n (show (0 : Nat) ≠ 6 by omega), mset_n (show (0 : Nat) ≠ 9 by omega), mset_n (show (20 + j : Nat) ≠ 7 by omega), mset_n (show (20 + j : Nat) ≠ 6 by omega), mset_n (show (20 + j : Nat) ≠ 9 by omega)] at eto
                  refine lv_isub hx hb dX7_lay_159 ?_
                  refine lv_aload_n hx hb dX7_lay_160 rfl (lv_at hl 4 rfl) ?_
                  refine lv_iload_n hx hb dX7_lay_161 rfl (lv_at hl 5 rfl) ?_
                  refine lv_iload hx hb dX7_lay_162 (lv_at hl 2 rfl) ?_
                  refine kc_i (kr_V (As := [.int (nI i), .int (nI j)]) (rest := [.int (cd - to), .int (nI j), .ref (md 8)]) hx hb hml hown hG (c_X7_correction l D cy md (mset (mset (mset P 9 (upd (P 9) j 0)) 6 (upd (P 6) j xv)) 7 (upd (P 7) j yv)) co su ns hns8 ens (mRef_of (fun k hk => by rw [mset_n (by omega), mset_n (by omega), mset_n (by omega)]) hre) i j hi hlt8j) cf_X7_correction wM_X7_176 hw.o rfl hw ⟨rfl, rfl, by decide, by decide⟩ rfl rfl (Nat.le_of_ble_eq_true rfl) ⟨Nat.le_of_ble_eq_true rfl, Nat.le_of_ble_eq_true rfl⟩ dX7_lay_164) ?_
                  refine lv_topi (fun cr ecr => ?_)
                  rw [mCorr_of (N := P) (by rw [mset_n (by omega), mset_n (by omega), mset_n (by omega)]) (fun k hk => by rw [mset_n (by omega), mset_n (by omega), mset_n (by omega)])] at ecr
                  refine lv_isub hx hb dX7_lay_167 ?_
                  refine lv_topi (fun pv epv => ?_)
                  refine k_iast hx hb hG (show va_P D vwCl [(md 8, .inl (cy 0, 8, .inl (P 8)))] _ from by have h := hw.ps; rw [mset_n (show (8 : Nat) ≠ 7 by omega), mset_n (show (8 : Nat) ≠ 6 by omega), mset_n (show (8 : Nat) ≠ 9 by omega)] at h; exact h) hS (MA.i (mkb_iff.mp (by decide))) (vp_in_nI (n := j) hlt8j (by decide)) dX7_lay_168 (fun H1 locs hP1 z1 oq1 hS => ?_)
                  rw [nI_clamp (by have := hlt8j; omega)] at hP1
                  have hw := hw.setI hA (mkb_iff.mp (by decide)) (by decide) hP1 oq1
                  refine lv_aload_n hx hb dX7_lay_169 rfl (lv_at hl 4 rfl) ?_
                  refine k_get (ci := 7) (C := RX7) (T := TX7) (N := 20) (v := .ref (md 9)) hx hb hown hG rfl kin_X7 (show va_P D vwCl [(md 0, .inr (7, [.int ((P 0) 0), .int ((P 0) 1), .int ((P 0) 2), .ref (md 1), .ref (md 2), .ref (md 3), .ref (md 4), .ref (md 5), .int ((P 0) 8), .int ((P 0) 9), .int ((P 0) 10), .ref (md 6), .ref (md 7), .ref (md 8), .ref (md 9), .int ((P 0) 15), .int ((P 0) 16), .int ((P 0) 17), .long co, .long su]))] _ from by have h := hw.o; unfold mO at h; rw [mset_n (show (0 : Nat) ≠ 8 by omega), mset_n (show (0 : Nat) ≠ 7 by omega), mset_n (show (0 : Nat) ≠ 6 by omega), mset_n (show (0 : Nat) ≠ 9 by omega)] at h; exact h) 14 (by decide) wF_X7_38 rfl dX7_lay_170 ?_
                  refine lv_iload hx hb dX7_lay_173 (lv_at hl 2 rfl) ?_
                  refine lv_iload hx hb dX7_lay_175 (lv_at hl 0 rfl) ?_
                  refine lv_if_eq (tgt := 184) hx hb dX7_lay_177 (by decide) (fun _ => ?_) (fun q9 => absurd (show (0 : Int32) = 0 by decide) q9)
                  refine lv_aload_n hx hb dX7_lay_184 rfl (lv_at hl 4 rfl) ?_
                  refine k_get (ci := 7) (C := RX7) (T := TX7) (N := 20) (v := .ref (md 7)) hx hb hown hG rfl kin_X7 (show va_P D vwCl [(md 0, .inr (7, [.int ((P 0) 0), .int ((P 0) 1), .int ((P 0) 2), .ref (md 1), .ref (md 2), .ref (md 3), .ref (md 4), .ref (md 5), .int ((P 0) 8), .int ((P 0) 9), .int ((P 0) 10), .ref (md 6), .ref (md 7), .ref (md 8), .ref (md 9), .int ((P 0) 15), .int ((P 0) 16), .int ((P 0) 17), .long co, .long su]))] _ from by have h := hw.o; unfold mO at h; rw [mset_n (show (0 : Nat) ≠ 8 by omega), mset_n (show (0 : Nat) ≠ 7 by omega), mset_n (show (0 : Nat) ≠ 6 by omega), mset_n (show (0 : Nat) ≠ 9 by omega)] at h; exact h) 12 (by decide) wF_X7_32 rfl dX7_lay_185 ?_
                  refine lv_iload hx hb dX7_lay_188 (lv_at hl 2 rfl) ?_
                  refine k_iald (v := ((upd (P 7) j yv) j)) hx hb hG (show va_P D vwCl [(md 7, .inl (cy 0, 8, .inl (upd (P 7) j yv)))] _ from by have h := hw.sy; rw [mset_n (show (7 : Nat) ≠ 8 by omega), mset_s] at h; exact h) (vp_in_nI (n := j) hlt8j (by decide)) (congrArg (upd (P 7) j yv) (nI_clamp (by have := hlt8j; omega))) dX7_lay_190 ?_
                  refine lv_aload_n hx hb dX7_lay_191 rfl (lv_at hl 4 rfl) ?_
                  refine k_get (ci := 7) (C := RX7) (T := TX7) (N := 20) (v := .ref (md 6)) hx hb hown hG rfl kin_X7 (show va_P D vwCl [(md 0, .inr (7, [.int ((P 0) 0), .int ((P 0) 1), .int ((P 0) 2), .ref (md 1), .ref (md 2), .ref (md 3), .ref (md 4), .ref (md 5), .int ((P 0) 8), .int ((P 0) 9), .int ((P 0) 10), .ref (md 6), .ref (md 7), .ref (md 8), .ref (md 9), .int ((P 0) 15), .int ((P 0) 16), .int ((P 0) 17), .long co, .long su]))] _ from by have h := hw.o; unfold mO at h; rw [mset_n (show (0 : Nat) ≠ 8 by omega), mset_n (show (0 : Nat) ≠ 7 by omega), mset_n (show (0 : Nat) ≠ 6 by omega), mset_n (show (0 : Nat) ≠ 9 by omega)] at h; exact h) 11 (by decide) wF_X7_28 rfl dX7_lay_192 ?_
                  refine lv_iload hx hb dX7_lay_195 (lv_at hl 2 rfl) ?_
                  refine k_iald (v := ((upd (P 6) j xv) j)) hx hb hG (show va_P D vwCl [(md 6, .inl (cy 0, 8, .inl (upd (P 6) j xv)))] _ from by have h := hw.sx; rw [mset_n (show (6 : Nat) ≠ 8 by omega), mset_n (show (6 : Nat) ≠ 7 by omega), mset_s] at h; exact h) (vp_in_nI (n := j) hlt8j (by decide)) (congrArg (upd (P 6) j xv) (nI_clamp (by have := hlt8j; omega))) dX7_lay_197 ?_
                  refine k_mabs hx hb hml hown hG wM_X7_61 (Nat.le_of_ble_eq_true rfl) (Nat.le_of_ble_eq_true rfl) (Nat.le_of_ble_eq_true rfl) (Nat.le_of_ble_eq_true rfl) dX7_lay_198 ?_
                  refine lv_icmp_le (tgt := 208) hx hb dX7_lay_201 (by decide) (fun c_201 => ?_) (fun c_201 => ?_)
                  · have c_201 : yv ≤ pAbs xv := by rw [upd_at, upd_at] at c_201; exact c_201
                    refine lv_iconst (v := 1) hx hb dX7_lay_208 (by decide) ?_
                    refine lv_topi (fun wv ewv => ?_)
                    refine k_iast hx hb hG (show va_P D vwCl [(md 9, .inl (cy 0, 8, .inl (upd (P 9) j 0)))] _ from by have h := hw.wt; rw [mset_n (show (9 : Nat) ≠ 8 by omega), mset_n (show (9 : Nat) ≠ 7 by omega), mset_n (show (9 : Nat) ≠ 6 by omega), mset_s] at h; exact h) hS (MA.i (mkb_iff.mp (by decide))) (vp_in_nI (n := j) hlt8j (by decide)) dX7_lay_209 (fun H1 locs hP1 z1 oq1 hS => ?_)
                    rw [nI_clamp (by have := hlt8j; omega)] at hP1
                    have hw := hw.setI hA (mkb_iff.mp (by decide)) (by decide) hP1 oq1
                    have e1 : xv = mLayX P j := by rw [exv, etp]; rfl
                    have e2 : yv = mLayY P j := by rw [eyv, etq]; rfl
                    have efd : mFixd P i j ar = false := by unfold mFixd; rw [if_neg c_64, if_neg c_72]
                    have e3 : pv = mLayP P ns i ar j := by unfold mLayP; rw [efd, if_neg (by decide), epv, ecd, eto, ecr]
                    have e4 : wv = mLayW P i ar j := by unfold mLayW; rw [efd, if_neg (by decide), ← e1, ← e2, ewv, if_pos c_201]
                    refine lv_iinc (v := (nI (q + 1))) (lv' := [(4, .int (nI (q + 1))), (7, .int 0), (6, .ref (md (60 + 8 * i + j))), (5, .int (nI j)), (0, .ref (md 0)), (1, .int (nI i)), (2, .int ar), (3, .int lo)]) hx hb dX7_lay_210 hl (k := 3) rfl ((nI_succ q).symm) (by decide) rfl (fun ls hl => ?_)
                    have hml : c.maxLocals = ls.size := hml9.trans hl.1.symm
                    refine lv_iinc (v := (nI (j + 1))) (lv' := [(5, .int (nI (j + 1))), (4, .int (nI (q + 1))), (7, .int 0), (6, .ref (md (60 + 8 * i + j))), (0, .ref (md 0)), (1, .int (nI i)), (2, .int ar), (3, .int lo)]) hx hb dX7_lay_213 hl (k := 3) rfl ((nI_succ j).symm) (by decide) rfl (fun ls hl => ?_)
                    have hml : c.maxLocals = ls.size := hml9.trans hl.1.symm
                    refine lv_goto (tgt := 6) hx hb dX7_lay_216 (by decide) ?_
                    exact ih9 (j + 1) _ (q + 1) _ _ (by omega) hltj hw (by rw [mLay_s, ← eP, if_neg (show ¬ bI (cLay P i lo j) = 0 from by unfold cLay; rw [if_neg c_26, if_neg c_35, if_neg c_46]; decide)]; unfold mLayS; rw [← e1, ← e2, ← e3, ← e4]) (by rw [mLay_s, ← eP, if_neg (show ¬ bI (cLay P i lo j) = 0 from by unfold cLay; rw [if_neg c_26, if_neg c_35, if_neg c_46]; decide), eq]) hS ls (lv_sub hl [0, 1, 4, 5, 6, 7] rfl)
                  · have c_201 : ¬ yv ≤ pAbs xv := by rw [upd_at, upd_at] at c_201; exact c_201
                    refine lv_iconst (v := 2) hx hb dX7_lay_204 (by decide) ?_
                    refine lv_goto (tgt := 209) hx hb dX7_lay_205 (by decide) ?_
                    refine lv_topi (fun wv ewv => ?_)
                    refine k_iast hx hb hG (show va_P D vwCl [(md 9, .inl (cy 0, 8, .inl (upd (P 9) j 0)))] _ from by have h := hw.wt; rw [mset_n (show (9 : Nat) ≠ 8 by omega), mset_n (show (9 : Nat) ≠ 7 by omega), mset_n (show (9 : Nat) ≠ 6 by omega), mset_s] at h; exact h) hS (MA.i (mkb_iff.mp (by decide))) (vp_in_nI (n := j) hlt8j (by decide)) dX7_lay_209 (fun H1 locs hP1 z1 oq1 hS => ?_)
                    rw [nI_clamp (by have := hlt8j; omega)] at hP1
                    have hw := hw.setI hA (mkb_iff.mp (by decide)) (by decide) hP1 oq1
                    have e1 : xv = mLayX P j := by rw [exv, etp]; rfl
                    have e2 : yv = mLayY P j := by rw [eyv, etq]; rfl
                    have efd : mFixd P i j ar = false := by unfold mFixd; rw [if_neg c_64, if_neg c_72]
                    have e3 : pv = mLayP P ns i ar j := by unfold mLayP; rw [efd, if_neg (by decide), epv, ecd, eto, ecr]
                    have e4 : wv = mLayW P i ar j := by unfold mLayW; rw [efd, if_neg (by decide), ← e1, ← e2, ewv, if_neg c_201]
                    refine lv_iinc (v := (nI (q + 1))) (lv' := [(4, .int (nI (q + 1))), (7, .int 0), (6, .ref (md (60 + 8 * i + j))), (5, .int (nI j)), (0, .ref (md 0)), (1, .int (nI i)), (2, .int ar), (3, .int lo)]) hx hb dX7_lay_210 hl (k := 3) rfl ((nI_succ q).symm) (by decide) rfl (fun ls hl => ?_)
                    have hml : c.maxLocals = ls.size := hml9.trans hl.1.symm
                    refine lv_iinc (v := (nI (j + 1))) (lv' := [(5, .int (nI (j + 1))), (4, .int (nI (q + 1))), (7, .int 0), (6, .ref (md (60 + 8 * i + j))), (0, .ref (md 0)), (1, .int (nI i)), (2, .int ar), (3, .int lo)]) hx hb dX7_lay_213 hl (k := 3) rfl ((nI_succ j).symm) (by decide) rfl (fun ls hl => ?_)
                    have hml : c.maxLocals = ls.size := hml9.trans hl.1.symm
                    refine lv_goto (tgt := 6) hx hb dX7_lay_216 (by decide) ?_
                    exact ih9 (j + 1) _ (q + 1) _ _ (by omega) hltj hw (by rw [mLay_s, ← eP, if_neg (show ¬ bI (cLay P i lo j) = 0 from by unfold cLay; rw [if_neg c_26, if_neg c_35, if_neg c_46]; decide)]; unfold mLayS; rw [← e1, ← e2, ← e3, ← e4]) (by rw [mLay_s, ← eP, if_neg (show ¬ bI (cLay P i lo j) = 0 from by unfold cLay; rw [if_neg c_26, if_neg c_35, if_neg c_46]; decide), eq]) hS ls (lv_sub hl [0, 1, 4, 5, 6, 7] rfl)
                · refine lv_iconst (v := 1) hx hb dX7_lay_75 (by decide) ?_
                  refine lv_goto (tgt := 80) hx hb dX7_lay_76 (by decide) ?_
                  refine lv_istore (lv' := [(7, .int 1), (6, .ref (md (60 + 8 * i + j))), (5, .int (nI j)), (4, .int (nI q)), (0, .ref (md 0)), (1, .int (nI i)), (2, .int ar), (3, .int lo)]) hx hb dX7_lay_80 hl (by decide) rfl (fun ls hl => ?_)
                  have hml : c.maxLocals = ls.size := hml9.trans hl.1.symm
                  refine lv_aload_n hx hb dX7_lay_82 rfl (lv_at hl 4 rfl) ?_
                  refine k_get (ci := 7) (C := RX7) (T := TX7) (N := 20) (v := .ref (md 6)) hx hb hown hG rfl kin_X7 (show va_P D vwCl [(md 0, .inr (7, [.int ((P 0) 0), .int ((P 0) 1), .int ((P 0) 2), .ref (md 1), .ref (md 2), .ref (md 3), .ref (md 4), .ref (md 5), .int ((P 0) 8), .int ((P 0) 9), .int ((P 0) 10), .ref (md 6), .ref (md 7), .ref (md 8), .ref (md 9), .int ((P 0) 15), .int ((P 0) 16), .int ((P 0) 17), .long co, .long su]))] _ from by have h := hw.o; unfold mO at h; rw [mset_n (show (0 : Nat) ≠ 9 by omega)] at h; exact h) 11 (by decide) wF_X7_28 rfl dX7_lay_83 ?_
                  refine lv_iload hx hb dX7_lay_86 (lv_at hl 2 rfl) ?_
                  refine lv_aload_n hx hb dX7_lay_88 rfl (lv_at hl 4 rfl) ?_
                  refine lv_iload hx hb dX7_lay_89 (lv_at hl 2 rfl) ?_
                  refine lv_aload_n hx hb dX7_lay_91 rfl (lv_at hl 4 rfl) ?_
                  refine lv_iload hx hb dX7_lay_92 (lv_at hl 2 rfl) ?_
                  refine kc_i (kr_V (As := [.int (nI j)]) (rest := [.int (nI j), .ref (md 0), .int (nI j), .ref (md 6)]) hx hb hml hown hG (c_X7_toldPhase l D cy md (mset P 9 (upd (P 9) j 0)) co su j hlt8j) cf_X7_toldPhase wM_X7_167 hw.o rfl hw ⟨rfl, rfl, by decide, by decide⟩ rfl rfl (Nat.le_of_ble_eq_true rfl) ⟨Nat.le_of_ble_eq_true rfl, Nat.le_of_ble_eq_true rfl⟩ dX7_lay_94) ?_
                  refine lv_topi (fun tp etp => ?_)
                  rw [mset_n (show (0 : Nat) ≠ 9 by omega), mset_n (show (10 + j : Nat) ≠ 9 by omega), mset_n (show (20 + j : Nat) ≠ 9 by omega)] at etp
                  refine kc_i (kr_V (As := [.int (nI j), .int tp]) (rest := [.int (nI j), .ref (md 6)]) hx hb hml hown hG (c_X7_xAt l D cy md (mset P 9 (upd (P 9) j 0)) co su j hlt8j tp) cf_X7_xAt wM_X7_76 hw.o rfl hw ⟨rfl, rfl, by decide, by decide⟩ rfl rfl (Nat.le_of_ble_eq_true rfl) ⟨Nat.le_of_ble_eq_true rfl, Nat.le_of_ble_eq_true rfl⟩ dX7_lay_97) ?_
                  refine lv_topi (fun xv exv => ?_)
                  rw [mset_n (show (10 + j : Nat) ≠ 9 by omega)] at exv
                  refine k_iast hx hb hG (show va_P D vwCl [(md 6, .inl (cy 0, 8, .inl (P 6)))] _ from by have h := hw.sx; rw [mset_n (show (6 : Nat) ≠ 9 by omega)] at h; exact h) hS (MA.i (mkb_iff.mp (by decide))) (vp_in_nI (n := j) hlt8j (by decide)) dX7_lay_100 (fun H1 locs hP1 z1 oq1 hS => ?_)
                  rw [nI_clamp (by have := hlt8j; omega)] at hP1
                  have hw := hw.setI hA (mkb_iff.mp (by decide)) (by decide) hP1 oq1
                  refine lv_aload_n hx hb dX7_lay_101 rfl (lv_at hl 4 rfl) ?_
                  refine k_get (ci := 7) (C := RX7) (T := TX7) (N := 20) (v := .ref (md 7)) hx hb hown hG rfl kin_X7 (show va_P D vwCl [(md 0, .inr (7, [.int ((P 0) 0), .int ((P 0) 1), .int ((P 0) 2), .ref (md 1), .ref (md 2), .ref (md 3), .ref (md 4), .ref (md 5), .int ((P 0) 8), .int ((P 0) 9), .int ((P 0) 10), .ref (md 6), .ref (md 7), .ref (md 8), .ref (md 9), .int ((P 0) 15), .int ((P 0) 16), .int ((P 0) 17), .long co, .long su]))] _ from by have h := hw.o; unfold mO at h; rw [mset_n (show (0 : Nat) ≠ 6 by omega), mset_n (show (0 : Nat) ≠ 9 by omega)] at h; exact h) 12 (by decide) wF_X7_32 rfl dX7_lay_102 ?_
                  refine lv_iload hx hb dX7_lay_105 (lv_at hl 2 rfl) ?_
                  refine lv_aload_n hx hb dX7_lay_107 rfl (lv_at hl 4 rfl) ?_
                  refine lv_iload hx hb dX7_lay_108 (lv_at hl 2 rfl) ?_
                  refine lv_aload_n hx hb dX7_lay_110 rfl (lv_at hl 4 rfl) ?_
                  refine lv_iload hx hb dX7_lay_111 (lv_at hl 2 rfl) ?_
                  refine kc_i (kr_V (As := [.int (nI j)]) (rest := [.int (nI j), .ref (md 0), .int (nI j), .ref (md 7)]) hx hb hml hown hG (c_X7_toldPhase l D cy md (mset (mset P 9 (upd (P 9) j 0)) 6 (upd (P 6) j xv)) co su j hlt8j) cf_X7_toldPhase wM_X7_167 hw.o rfl hw ⟨rfl, rfl, by decide, by decide⟩ rfl rfl (Nat.le_of_ble_eq_true rfl) ⟨Nat.le_of_ble_eq_true rfl, Nat.le_of_ble_eq_true rfl⟩ dX7_lay_113) ?_
                  refine lv_topi (fun tq etq => ?_)
                  rw [mset_n (show (0 : Nat) ≠ 6 by omega), mset_n (show (0 : Nat) ≠ 9 by omega), mset_n (show (10 + j : Nat) ≠ 6 by omega), mset_n (show (10 + j : Nat) ≠ 9 by omega), mset_n (show (20 + j : Nat) ≠ 6 by omega), mset_n (show (20 + j : Nat) ≠ 9 by omega)] at etq
                  refine kc_i (kr_V (As := [.int (nI j), .int tq]) (rest := [.int (nI j), .ref (md 7)]) hx hb hml hown hG (c_X7_yAt l D cy md (mset (mset P 9 (upd (P 9) j 0)) 6 (upd (P 6) j xv)) co su j hlt8j tq) cf_X7_yAt wM_X7_73 hw.o rfl hw ⟨rfl, rfl, by decide, by decide⟩ rfl rfl (Nat.le_of_ble_eq_true rfl) ⟨Nat.le_of_ble_eq_true rfl, Nat.le_of_ble_eq_true rfl⟩ dX7_lay_116) ?_
                  refine lv_topi (fun yv eyv => ?_)
                  rw [mset_n (show (10 + j : Nat) ≠ 6 by omega), mset_n (show (10 + j : Nat) ≠ 9 by omega)] at eyv
                  refine k_iast hx hb hG (show va_P D vwCl [(md 7, .inl (cy 0, 8, .inl (P 7)))] _ from by have h := hw.sy; rw [mset_n (show (7 : Nat) ≠ 6 by omega), mset_n (show (7 : Nat) ≠ 9 by omega)] at h; exact h) hS (MA.i (mkb_iff.mp (by decide))) (vp_in_nI (n := j) hlt8j (by decide)) dX7_lay_119 (fun H1 locs hP1 z1 oq1 hS => ?_)
                  rw [nI_clamp (by have := hlt8j; omega)] at hP1
                  have hw := hw.setI hA (mkb_iff.mp (by decide)) (by decide) hP1 oq1
                  refine lv_aload_n hx hb dX7_lay_120 rfl (lv_at hl 4 rfl) ?_
                  refine k_get (ci := 7) (C := RX7) (T := TX7) (N := 20) (v := .ref (md 8)) hx hb hown hG rfl kin_X7 (show va_P D vwCl [(md 0, .inr (7, [.int ((P 0) 0), .int ((P 0) 1), .int ((P 0) 2), .ref (md 1), .ref (md 2), .ref (md 3), .ref (md 4), .ref (md 5), .int ((P 0) 8), .int ((P 0) 9), .int ((P 0) 10), .ref (md 6), .ref (md 7), .ref (md 8), .ref (md 9), .int ((P 0) 15), .int ((P 0) 16), .int ((P 0) 17), .long co, .long su]))] _ from by have h := hw.o; unfold mO at h; rw [mset_n (show (0 : Nat) ≠ 7 by omega), mset_n (show (0 : Nat) ≠ 6 by omega), mset_n (show (0 : Nat) ≠ 9 by omega)] at h; exact h) 13 (by decide) wF_X7_35 rfl dX7_lay_121 ?_
                  refine lv_iload hx hb dX7_lay_124 (lv_at hl 2 rfl) ?_
                  refine lv_iload hx hb dX7_lay_126 (lv_at hl 0 rfl) ?_
                  refine lv_if_eq (tgt := 146) hx hb dX7_lay_128 (by decide) (fun q9 => absurd q9 (show ¬ (1 : Int32) = 0 by decide)) (fun _ => ?_)
                  refine lv_aload hx hb dX7_lay_131 (lv_at hl 1 rfl) ?_
                  refine lv_iconst (v := 1) hx hb dX7_lay_133 (by decide) ?_
                  refine k_iald (v := ((P (60 + 8 * i + j)) 1)) hx hb hG (show va_P D vwCl [(md (60 + 8 * i + j), .inl (cy 0, 12, .inl (P (60 + 8 * i + j))))] _ from by have h := hw.rw hi hlt8j; rw [mset_n (show (60 + 8 * i + j : Nat) ≠ 7 by omega), mset_n (show (60 + 8 * i + j : Nat) ≠ 6 by omega), mset_n (show (60 + 8 * i + j : Nat) ≠ 9 by omega)] at h; exact h) (show vp_in (nI 1) 12 from vp_in_nI (by decide) (by decide)) (congrArg (P (60 + 8 * i + j)) (clI 1 (by decide))) dX7_lay_134 ?_
                  refine lv_bipush (v := 10) hx hb dX7_lay_135 (by decide) ?_
                  refine lv_aload hx hb dX7_lay_137 (lv_at hl 1 rfl) ?_
                  refine lv_iconst (v := 2) hx hb dX7_lay_139 (by decide) ?_
                  refine k_iald (v := ((P (60 + 8 * i + j)) 2)) hx hb hG (show va_P D vwCl [(md (60 + 8 * i + j), .inl (cy 0, 12, .inl (P (60 + 8 * i + j))))] _ from by have h := hw.rw hi hlt8j; rw [mset_n (show (60 + 8 * i + j : Nat) ≠ 7 by omega), mset_n (show (60 + 8 * i + j : Nat) ≠ 6 by omega), mset_n (show (60 + 8 * i + j : Nat) ≠ 9 by omega)] at h; exact h) (show vp_in (nI 2) 12 from vp_in_nI (by decide) (by decide)) (congrArg (P (60 + 8 * i + j)) (clI 2 (by decide))) dX7_lay_140 ?_
                  refine lv_imul hx hb dX7_lay_141 ?_
                  refine lv_iadd hx hb dX7_lay_142 ?_
                  refine lv_goto (tgt := 153) hx hb dX7_lay_143 (by decide) ?_
                  refine lv_aload_n hx hb dX7_lay_153 rfl (lv_at hl 4 rfl) ?_
                  refine lv_iload hx hb dX7_lay_154 (lv_at hl 2 rfl) ?_
                  refine kc_i (kr_V (As := [.int (nI j)]) (rest := [.int (((P (60 + 8 * i + j)) 1) + (10 * ((P (60 + 8 * i + j)) 2))), .int (nI j), .ref (md 8)]) hx hb hml hown hG (c_X7_toldOffset l D cy md (mset (mset (mset P 9 (upd (P 9) j 0)) 6 (upd (P 6) j xv)) 7 (upd (P 7) j yv)) co su j hlt8j) cf_X7_toldOffset wM_X7_173 hw.o rfl hw ⟨rfl, rfl, by decide, by decide⟩ rfl rfl (Nat.le_of_ble_eq_true rfl) ⟨Nat.le_of_ble_eq_true rfl, Nat.le_of_ble_eq_true rfl⟩ dX7_lay_156) ?_
                  refine lv_topi (fun to eto => ?_)
                  rw [mset_n (show (0 : Nat) ≠ 7 by omega), mset_n (show (0 : Nat) ≠ 6 by omega), mset_n (show (0 : Nat) ≠ 9 by omega), mset_n (show (20 + j : Nat) ≠ 7 by omega), mset_n (show (20 + j : Nat) ≠ 6 by omega), mset_n (show (20 + j : Nat) ≠ 9 by omega)] at eto
                  refine lv_isub hx hb dX7_lay_159 ?_
                  refine lv_aload_n hx hb dX7_lay_160 rfl (lv_at hl 4 rfl) ?_
                  refine lv_iload_n hx hb dX7_lay_161 rfl (lv_at hl 5 rfl) ?_
                  refine lv_iload hx hb dX7_lay_162 (lv_at hl 2 rfl) ?_
                  refine kc_i (kr_V (As := [.int (nI i), .int (nI j)]) (rest := [.int ((((P (60 + 8 * i + j)) 1) + (10 * ((P (60 + 8 * i + j)) 2))) - to), .int (nI j), .ref (md 8)]) hx hb hml hown hG (c_X7_correction l D cy md (mset (mset (mset P 9 (upd (P 9) j 0)) 6 (upd (P 6) j xv)) 7 (upd (P 7) j yv)) co su ns hns8 ens (mRef_of (fun k hk => by rw [mset_n (by omega), mset_n (by omega), mset_n (by omega)]) hre) i j hi hlt8j) cf_X7_correction wM_X7_176 hw.o rfl hw ⟨rfl, rfl, by decide, by decide⟩ rfl rfl (Nat.le_of_ble_eq_true rfl) ⟨Nat.le_of_ble_eq_true rfl, Nat.le_of_ble_eq_true rfl⟩ dX7_lay_164) ?_
                  refine lv_topi (fun cr ecr => ?_)
                  rw [mCorr_of (N := P) (by rw [mset_n (by omega), mset_n (by omega), mset_n (by omega)]) (fun k hk => by rw [mset_n (by omega), mset_n (by omega), mset_n (by omega)])] at ecr
                  refine lv_isub hx hb dX7_lay_167 ?_
                  refine lv_topi (fun pv epv => ?_)
                  refine k_iast hx hb hG (show va_P D vwCl [(md 8, .inl (cy 0, 8, .inl (P 8)))] _ from by have h := hw.ps; rw [mset_n (show (8 : Nat) ≠ 7 by omega), mset_n (show (8 : Nat) ≠ 6 by omega), mset_n (show (8 : Nat) ≠ 9 by omega)] at h; exact h) hS (MA.i (mkb_iff.mp (by decide))) (vp_in_nI (n := j) hlt8j (by decide)) dX7_lay_168 (fun H1 locs hP1 z1 oq1 hS => ?_)
                  rw [nI_clamp (by have := hlt8j; omega)] at hP1
                  have hw := hw.setI hA (mkb_iff.mp (by decide)) (by decide) hP1 oq1
                  refine lv_aload_n hx hb dX7_lay_169 rfl (lv_at hl 4 rfl) ?_
                  refine k_get (ci := 7) (C := RX7) (T := TX7) (N := 20) (v := .ref (md 9)) hx hb hown hG rfl kin_X7 (show va_P D vwCl [(md 0, .inr (7, [.int ((P 0) 0), .int ((P 0) 1), .int ((P 0) 2), .ref (md 1), .ref (md 2), .ref (md 3), .ref (md 4), .ref (md 5), .int ((P 0) 8), .int ((P 0) 9), .int ((P 0) 10), .ref (md 6), .ref (md 7), .ref (md 8), .ref (md 9), .int ((P 0) 15), .int ((P 0) 16), .int ((P 0) 17), .long co, .long su]))] _ from by have h := hw.o; unfold mO at h; rw [mset_n (show (0 : Nat) ≠ 8 by omega), mset_n (show (0 : Nat) ≠ 7 by omega), mset_n (show (0 : Nat) ≠ 6 by omega), mset_n (show (0 : Nat) ≠ 9 by omega)] at h; exact h) 14 (by decide) wF_X7_38 rfl dX7_lay_170 ?_
                  refine lv_iload hx hb dX7_lay_173 (lv_at hl 2 rfl) ?_
                  refine lv_iload hx hb dX7_lay_175 (lv_at hl 0 rfl) ?_
                  refine lv_if_eq (tgt := 184) hx hb dX7_lay_177 (by decide) (fun q9 => absurd q9 (show ¬ (1 : Int32) = 0 by decide)) (fun _ => ?_)
                  refine lv_iconst (v := 4) hx hb dX7_lay_180 (by decide) ?_
                  refine lv_goto (tgt := 209) hx hb dX7_lay_181 (by decide) ?_
                  refine lv_topi (fun wv ewv => ?_)
                  refine k_iast hx hb hG (show va_P D vwCl [(md 9, .inl (cy 0, 8, .inl (upd (P 9) j 0)))] _ from by have h := hw.wt; rw [mset_n (show (9 : Nat) ≠ 8 by omega), mset_n (show (9 : Nat) ≠ 7 by omega), mset_n (show (9 : Nat) ≠ 6 by omega), mset_s] at h; exact h) hS (MA.i (mkb_iff.mp (by decide))) (vp_in_nI (n := j) hlt8j (by decide)) dX7_lay_209 (fun H1 locs hP1 z1 oq1 hS => ?_)
                  rw [nI_clamp (by have := hlt8j; omega)] at hP1
                  have hw := hw.setI hA (mkb_iff.mp (by decide)) (by decide) hP1 oq1
                  have e1 : xv = mLayX P j := by rw [exv, etp]; rfl
                  have e2 : yv = mLayY P j := by rw [eyv, etq]; rfl
                  have efd : mFixd P i j ar = true := by unfold mFixd; rw [if_neg c_64, if_pos c_72]
                  have e3 : pv = mLayP P ns i ar j := by unfold mLayP; rw [efd, if_pos rfl, epv, eto, ecr]
                  have e4 : wv = mLayW P i ar j := by unfold mLayW; rw [efd, if_pos rfl, ewv]
                  refine lv_iinc (v := (nI (q + 1))) (lv' := [(4, .int (nI (q + 1))), (7, .int 1), (6, .ref (md (60 + 8 * i + j))), (5, .int (nI j)), (0, .ref (md 0)), (1, .int (nI i)), (2, .int ar), (3, .int lo)]) hx hb dX7_lay_210 hl (k := 3) rfl ((nI_succ q).symm) (by decide) rfl (fun ls hl => ?_)
                  have hml : c.maxLocals = ls.size := hml9.trans hl.1.symm
                  refine lv_iinc (v := (nI (j + 1))) (lv' := [(5, .int (nI (j + 1))), (4, .int (nI (q + 1))), (7, .int 1), (6, .ref (md (60 + 8 * i + j))), (0, .ref (md 0)), (1, .int (nI i)), (2, .int ar), (3, .int lo)]) hx hb dX7_lay_213 hl (k := 3) rfl ((nI_succ j).symm) (by decide) rfl (fun ls hl => ?_)
                  have hml : c.maxLocals = ls.size := hml9.trans hl.1.symm
                  refine lv_goto (tgt := 6) hx hb dX7_lay_216 (by decide) ?_
                  exact ih9 (j + 1) _ (q + 1) _ _ (by omega) hltj hw (by rw [mLay_s, ← eP, if_neg (show ¬ bI (cLay P i lo j) = 0 from by unfold cLay; rw [if_neg c_26, if_neg c_35, if_neg c_46]; decide)]; unfold mLayS; rw [← e1, ← e2, ← e3, ← e4]) (by rw [mLay_s, ← eP, if_neg (show ¬ bI (cLay P i lo j) = 0 from by unfold cLay; rw [if_neg c_26, if_neg c_35, if_neg c_46]; decide), eq]) hS ls (lv_sub hl [0, 1, 4, 5, 6, 7] rfl)
            · have c_46 : bI (mSees (P (40 + i)) (P (10 + j)) 0) = 0 := by rw [mset_n (show (40 + i : Nat) ≠ 9 by omega), mset_n (show (10 + j : Nat) ≠ 9 by omega)] at c_46; exact c_46
              refine lv_goto (tgt := 213) hx hb dX7_lay_49 (by decide) ?_
              refine lv_iinc (v := (nI (j + 1))) (lv' := [(5, .int (nI (j + 1))), (4, .int (nI q)), (0, .ref (md 0)), (1, .int (nI i)), (2, .int ar), (3, .int lo)]) hx hb dX7_lay_213 hl (k := 0) rfl ((nI_succ j).symm) (by decide) rfl (fun ls hl => ?_)
              have hml : c.maxLocals = ls.size := hml9.trans hl.1.symm
              refine lv_goto (tgt := 6) hx hb dX7_lay_216 (by decide) ?_
              exact ih9 (j + 1) _ q _ _ (by omega) hltj hw (by rw [mLay_s, ← eP, if_pos (show bI (cLay P i lo j) = 0 from by unfold cLay; rw [if_neg c_26, if_neg c_35, if_pos c_46]; rfl)]) (by rw [mLay_s, ← eP, if_pos (show bI (cLay P i lo j) = 0 from by unfold cLay; rw [if_neg c_26, if_neg c_35, if_pos c_46]; rfl)]; exact eq) hS ls (lv_sub hl [0, 1, 2, 3, 4, 5] rfl)
  exact lp6_1 (ns + 1) 0 _ 0 _ _ (Nat.le_refl _) (Nat.zero_le _) hw (by rw [mLay_0]) (by rw [mLay_0]) hS ls (lv_sub hl [0, 1, 2, 3, 4, 5] rfl)
