set_option maxHeartbeats 4000000 in
set_option maxRecDepth 100000 in
theorem c_X7_listen (l : Launch) (D : va_G) (cy : Nat → ClassId) (md : Nat → Nat) (N : Nat → Nat → Int32) (co su : Int64) (hA : MI md) (ns nt nr : Nat) (hL : LB ns nt nr) (hN : MN N ns nt nr) (t x : Int32) : Met l yX7_listen [.code yX7_listen cX7_listen 5 (some .int)] ({ frames := 4, cells := 0, slots := 0, locals := 89 } : Room) (PC D cy [.ref (md 0), .int t, .int x] (fun H => MW D cy md N co su H)) (UQi (MA md) (mOut D cy md N co su (kLisM (thr N 0) nt ns t x) (fun r H => ∃ i j, i < nt ∧ j < ns ∧ t = nI i ∧ x = nI j ∧ r = mListenT (thr N 0) i j 0 ∧ MW D cy md (mset (thr N 0) (20 + j) (mListenT (thr N 0) i j)) co su H))) 0 0 (MA md) := by
  refine k_body (by decide +kernel) (Nat.le_of_ble_eq_true rfl) ?_
  intro p e s m below meth c ls hx hb hml hown hr hlk hmn hl hG hI
  have hml9 : c.maxLocals = 5 := hml.trans hl.1
  have hl : lv_has ls 5 [(0, .ref (md 0)), (1, .int t), (2, .int x)] := hl
  have hS : va_S (MA md) s.heap s.heap [] := va_S.rf
  have hw := hI
  refine lv_aload_n hx hb dX7_listen_0 rfl (lv_at hl 0 rfl) ?_
  refine lv_iconst (v := 0) hx hb dX7_listen_1 (by decide) ?_
  refine k_put (ci := 7) (C := RX7) (T := TX7) (N := 20) (v := .int 0) hx hb hown hG rfl kin_X7 tyX7 tyX7_ok nmX7 hw.o hS MA.o 0 (by decide) wF_X7_41 rfl rfl rfl (Nat.le_of_ble_eq_true rfl) dX7_listen_2 (fun H1 locs hP1 z1 oq1 hS => ?_)
  have hw := hw.setO (r := (upd (N 0) 0 0)) (c' := co) (s' := su) hA hP1 oq1
  have hw : MW D cy md (thr N 0) co su H1 := hw
  refine lv_aload_n hx hb dX7_listen_5 rfl (lv_at hl 0 rfl) ?_
  refine lv_iload_n hx hb dX7_listen_6 rfl (lv_at hl 1 rfl) ?_
  refine kc_i (kr_V (As := [.int t]) (rest := []) hx hb hml hown hG (c_X7_isStation l D cy md (thr N 0) co su t) cf_X7_isStation wM_X7_105 hw.o rfl hw ⟨rfl, rfl, by decide, by decide⟩ rfl rfl (Nat.le_of_ble_eq_true rfl) ⟨Nat.le_of_ble_eq_true rfl, Nat.le_of_ble_eq_true rfl⟩ dX7_listen_7) ?_
  refine lv_if_eq (tgt := 21) hx hb dX7_listen_10 (by decide) (fun c_10 => ?_) (fun c_10 => ?_)
  · have c_10 : ¬ bI (pOut t 0 (nI nt - 1)) = 0 := by have h := mIs_f c_10; rw [show thr N 0 0 9 = nI nt from hN.2.1] at h; exact h
    refine lv_aload_n hx hb dX7_listen_21 rfl (lv_at hl 0 rfl) ?_
    refine lv_iconst (v := 1) hx hb dX7_listen_22 (by decide) ?_
    refine kc_ui (kr_V (As := [.int 1]) (rest := []) hx hb hml hown hG (c_X7_refuse l D cy md (thr N 0) co su hA 1) cf_X7_refuse wM_X7_95 hw.o rfl hw ⟨rfl, rfl, by decide, by decide⟩ rfl rfl (Nat.le_of_ble_eq_true rfl) ⟨Nat.le_of_ble_eq_true rfl, Nat.le_of_ble_eq_true rfl⟩ dX7_listen_23) hS (fun _ h => h) (fun r_23 H1 locs hp1 z1 oq1 hS => ?_)
    obtain ⟨e9, hw⟩ := hp1
    subst e9
    rw [thr_thr] at hw
    exact ke_ui hx hb hr hlk hS dX7_listen_26 (Or.inl ⟨by unfold kLisM; rw [if_neg c_10], hw⟩)
  · have c_10 : bI (pOut t 0 (nI nt - 1)) = 0 := by have h := mIs_t c_10; rw [show thr N 0 0 9 = nI nt from hN.2.1] at h; exact h
    obtain ⟨i, hi, ei⟩ := pOut_f (Nat.le_trans hL.2.1 (by decide)) c_10
    subst ei
    have hbi := Nat.lt_of_lt_of_le hi hL.2.1
    refine lv_aload_n hx hb dX7_listen_13 rfl (lv_at hl 0 rfl) ?_
    refine lv_iload_n hx hb dX7_listen_14 rfl (lv_at hl 2 rfl) ?_
    refine kc_i (kr_V (As := [.int x]) (rest := []) hx hb hml hown hG (c_X7_isStar l D cy md (thr N 0) co su x) cf_X7_isStar wM_X7_98 hw.o rfl hw ⟨rfl, rfl, by decide, by decide⟩ rfl rfl (Nat.le_of_ble_eq_true rfl) ⟨Nat.le_of_ble_eq_true rfl, Nat.le_of_ble_eq_true rfl⟩ dX7_listen_15) ?_
    refine lv_if_ne (tgt := 27) hx hb dX7_listen_18 (by decide) (fun c_18 => ?_) (fun c_18 => ?_)
    · have c_18 : bI (pOut x 0 (nI ns - 1)) = 0 := by have h := mIs_t c_18; rw [show thr N 0 0 8 = nI ns from hN.1] at h; exact h
      obtain ⟨j, hj, ej⟩ := pOut_f hL.1 c_18
      subst ej
      have hbj := Nat.lt_of_lt_of_le hj hL.1
      refine lv_aload_n hx hb dX7_listen_27 rfl (lv_at hl 0 rfl) ?_
      refine lv_iload_n hx hb dX7_listen_28 rfl (lv_at hl 2 rfl) ?_
      refine lv_iload_n hx hb dX7_listen_29 rfl (lv_at hl 1 rfl) ?_
      refine lv_iconst (v := 0) hx hb dX7_listen_30 (by decide) ?_
      refine kc_i (kr_V (As := [.int (nI j), .int (nI i), .int 0]) (rest := []) hx hb hml hown hG (c_X7_isHeard l D cy md (thr N 0) co su j i hbj hbi 0) cf_X7_isHeard wM_X7_108 hw.o rfl hw ⟨rfl, rfl, by decide, by decide⟩ rfl rfl (Nat.le_of_ble_eq_true rfl) ⟨Nat.le_of_ble_eq_true rfl, Nat.le_of_ble_eq_true rfl⟩ dX7_listen_31) ?_
      refine lv_if_ne (tgt := 43) hx hb dX7_listen_34 (by decide) (fun c_34 => ?_) (fun c_34 => ?_)
      · refine lv_aload_n hx hb dX7_listen_43 rfl (lv_at hl 0 rfl) ?_
        refine k_get (ci := 7) (C := RX7) (T := TX7) (N := 20) (v := .ref (md 2)) hx hb hown hG rfl kin_X7 hw.o 4 (by decide) wF_X7_14 rfl dX7_listen_44 ?_
        refine lv_iload_n hx hb dX7_listen_47 rfl (lv_at hl 2 rfl) ?_
        refine k_ald2 (v := (md (20 + j))) hx hb hG 5 rfl hw.a2 (vp_in_nI (n := j) hbj (by decide)) (mo_ms hbj) dX7_listen_48 ?_
        refine lv_astore_n (lv' := [(3, .ref (md (20 + j))), (0, .ref (md 0)), (1, .int (nI i)), (2, .int (nI j))]) hx hb dX7_listen_49 rfl hl (by decide) rfl (fun ls hl => ?_)
        have hml : c.maxLocals = ls.size := hml9.trans hl.1.symm
        refine lv_aload_n hx hb dX7_listen_50 rfl (lv_at hl 1 rfl) ?_
        refine k_get (ci := 7) (C := RX7) (T := TX7) (N := 20) (v := .ref (md 1)) hx hb hown hG rfl kin_X7 hw.o 3 (by decide) wF_X7_11 rfl dX7_listen_51 ?_
        refine lv_iload_n hx hb dX7_listen_54 rfl (lv_at hl 3 rfl) ?_
        refine k_ald2 (v := (md (10 + j))) hx hb hG 5 rfl hw.a1 (vp_in_nI (n := j) hbj (by decide)) (mo_st hbj) dX7_listen_55 ?_
        refine lv_iconst (v := 3) hx hb dX7_listen_56 (by decide) ?_
        refine k_iald (v := ((thr N 0 (10 + j)) 3)) hx hb hG (hw.st hbj) (show vp_in (nI 3) 6 from vp_in_nI (by decide) (by decide)) (congrArg (thr N 0 (10 + j)) (clI 3 (by decide))) dX7_listen_57 ?_
        refine lv_aload_n hx hb dX7_listen_58 rfl (lv_at hl 1 rfl) ?_
        refine k_get (ci := 7) (C := RX7) (T := TX7) (N := 20) (v := .ref (md 3)) hx hb hown hG rfl kin_X7 hw.o 5 (by decide) wF_X7_17 rfl dX7_listen_59 ?_
        refine lv_iload_n hx hb dX7_listen_62 rfl (lv_at hl 2 rfl) ?_
        refine k_ald2 (v := (md (30 + i))) hx hb hG 5 rfl hw.a3 (vp_in_nI (n := i) hbi (by decide)) (mo_sn hbi) dX7_listen_63 ?_
        refine lv_iconst (v := 1) hx hb dX7_listen_64 (by decide) ?_
        refine k_iald (v := ((thr N 0 (30 + i)) 1)) hx hb hG (hw.sn hbi) (show vp_in (nI 1) 2 from vp_in_nI (by decide) (by decide)) (congrArg (thr N 0 (30 + i)) (clI 1 (by decide))) dX7_listen_65 ?_
        refine lv_iadd hx hb dX7_listen_66 ?_
        refine lv_istore (lv' := [(4, .int (((thr N 0 (10 + j)) 3) + ((thr N 0 (30 + i)) 1))), (3, .ref (md (20 + j))), (0, .ref (md 0)), (1, .int (nI i)), (2, .int (nI j))]) hx hb dX7_listen_67 hl (by decide) rfl (fun ls hl => ?_)
        have hml : c.maxLocals = ls.size := hml9.trans hl.1.symm
        refine lv_aload_n hx hb dX7_listen_69 rfl (lv_at hl 1 rfl) ?_
        refine lv_iconst (v := 0) hx hb dX7_listen_70 (by decide) ?_
        refine k_iald (v := ((thr N 0 (20 + j)) 0)) hx hb hG (hw.ms hbj) (show vp_in (nI 0) 5 from vp_in_nI (by decide) (by decide)) (congrArg (thr N 0 (20 + j)) (clI 0 (by decide))) dX7_listen_71 ?_
        refine lv_if_le (tgt := 103) hx hb dX7_listen_72 (by decide) (fun c_72 => ?_) (fun c_72 => ?_)
        · refine lv_aload_n hx hb dX7_listen_103 rfl (lv_at hl 1 rfl) ?_
          refine lv_iconst (v := 0) hx hb dX7_listen_104 (by decide) ?_
          refine lv_dup2_11 hx hb dX7_listen_105 rfl rfl ?_
          refine k_iald (v := ((thr N 0 (20 + j)) 0)) hx hb hG (hw.ms hbj) (show vp_in (nI 0) 5 from vp_in_nI (by decide) (by decide)) (congrArg (thr N 0 (20 + j)) (clI 0 (by decide))) dX7_listen_106 ?_
          refine lv_iconst (v := 1) hx hb dX7_listen_107 (by decide) ?_
          refine lv_iadd hx hb dX7_listen_108 ?_
          refine k_iast hx hb hG (hw.ms hbj) hS (MA.i (mk_ms hbj)) (show vp_in (nI 0) 5 from vp_in_nI (by decide) (by decide)) dX7_listen_109 (fun H1 locs hP1 z1 oq1 hS => ?_)
          rw [show Int32.toNatClampNeg 0 = 0 from clI 0 (by decide)] at hP1
          have hw := hw.setI hA (mk_ms hbj) (ml_ms hbj) hP1 oq1
          refine lv_aload_n hx hb dX7_listen_110 rfl (lv_at hl 1 rfl) ?_
          refine lv_iconst (v := 1) hx hb dX7_listen_111 (by decide) ?_
          refine lv_aload_n hx hb dX7_listen_112 rfl (lv_at hl 2 rfl) ?_
          refine k_get (ci := 7) (C := RX7) (T := TX7) (N := 20) (v := .int ((thr N 0 0) 1)) hx hb hown hG rfl kin_X7 (show va_P D vwCl [(md 0, .inr (7, [.int ((thr N 0 0) 0), .int ((thr N 0 0) 1), .int ((thr N 0 0) 2), .ref (md 1), .ref (md 2), .ref (md 3), .ref (md 4), .ref (md 5), .int ((thr N 0 0) 8), .int ((thr N 0 0) 9), .int ((thr N 0 0) 10), .ref (md 6), .ref (md 7), .ref (md 8), .ref (md 9), .int ((thr N 0 0) 15), .int ((thr N 0 0) 16), .int ((thr N 0 0) 17), .long co, .long su]))] _ from by have h := hw.o; unfold mO at h; rw [mset_n (show (0 : Nat) ≠ 20 + j by omega)] at h; exact h) 1 (by decide) wF_X7_64 rfl dX7_listen_113 ?_
          refine k_iast hx hb hG (show va_P D vwCl [(md (20 + j), .inl (cy 0, 5, .inl (upd (thr N 0 (20 + j)) 0 (((thr N 0 (20 + j)) 0) + 1))))] _ from by have h := hw.ms hbj; rw [mset_s] at h; exact h) hS (MA.i (mk_ms hbj)) (show vp_in (nI 1) 5 from vp_in_nI (by decide) (by decide)) dX7_listen_116 (fun H1 locs hP1 z1 oq1 hS => ?_)
          rw [show Int32.toNatClampNeg 1 = 1 from clI 1 (by decide)] at hP1
          have hw := hw.setI hA (mk_ms hbj) (ml_ms hbj) hP1 oq1
          rw [mset_mset] at hw
          refine lv_aload_n hx hb dX7_listen_117 rfl (lv_at hl 1 rfl) ?_
          refine lv_iconst (v := 2) hx hb dX7_listen_118 (by decide) ?_
          refine lv_aload_n hx hb dX7_listen_119 rfl (lv_at hl 2 rfl) ?_
          refine k_get (ci := 7) (C := RX7) (T := TX7) (N := 20) (v := .ref (md 1)) hx hb hown hG rfl kin_X7 (show va_P D vwCl [(md 0, .inr (7, [.int ((thr N 0 0) 0), .int ((thr N 0 0) 1), .int ((thr N 0 0) 2), .ref (md 1), .ref (md 2), .ref (md 3), .ref (md 4), .ref (md 5), .int ((thr N 0 0) 8), .int ((thr N 0 0) 9), .int ((thr N 0 0) 10), .ref (md 6), .ref (md 7), .ref (md 8), .ref (md 9), .int ((thr N 0 0) 15), .int ((thr N 0 0) 16), .int ((thr N 0 0) 17), .long co, .long su]))] _ from by have h := hw.o; unfold mO at h; rw [mset_n (show (0 : Nat) ≠ 20 + j by omega)] at h; exact h) 3 (by decide) wF_X7_11 rfl dX7_listen_120 ?_
          refine lv_iload_n hx hb dX7_listen_123 rfl (lv_at hl 4 rfl) ?_
          refine k_ald2 (v := (md (10 + j))) hx hb hG 5 rfl hw.a1 (vp_in_nI (n := j) hbj (by decide)) (mo_st hbj) dX7_listen_124 ?_
          refine lv_iconst (v := 1) hx hb dX7_listen_125 (by decide) ?_
          refine k_iald (v := ((thr N 0 (10 + j)) 1)) hx hb hG (show va_P D vwCl [(md (10 + j), .inl (cy 0, 6, .inl (thr N 0 (10 + j))))] _ from by have h := hw.st hbj; rw [mset_n (show (10 + j : Nat) ≠ 20 + j by omega)] at h; exact h) (show vp_in (nI 1) 6 from vp_in_nI (by decide) (by decide)) (congrArg (thr N 0 (10 + j)) (clI 1 (by decide))) dX7_listen_126 ?_
          refine k_iast hx hb hG (show va_P D vwCl [(md (20 + j), .inl (cy 0, 5, .inl (upd (upd (thr N 0 (20 + j)) 0 (((thr N 0 (20 + j)) 0) + 1)) 1 ((thr N 0 0) 1))))] _ from by have h := hw.ms hbj; rw [mset_s] at h; exact h) hS (MA.i (mk_ms hbj)) (show vp_in (nI 2) 5 from vp_in_nI (by decide) (by decide)) dX7_listen_127 (fun H1 locs hP1 z1 oq1 hS => ?_)
          rw [show Int32.toNatClampNeg 2 = 2 from clI 2 (by decide)] at hP1
          have hw := hw.setI hA (mk_ms hbj) (ml_ms hbj) hP1 oq1
          rw [mset_mset] at hw
          refine lv_aload_n hx hb dX7_listen_128 rfl (lv_at hl 1 rfl) ?_
          refine lv_iconst (v := 3) hx hb dX7_listen_129 (by decide) ?_
          refine lv_iload hx hb dX7_listen_130 (lv_at hl 0 rfl) ?_
          refine k_iast hx hb hG (show va_P D vwCl [(md (20 + j), .inl (cy 0, 5, .inl (upd (upd (upd (thr N 0 (20 + j)) 0 (((thr N 0 (20 + j)) 0) + 1)) 1 ((thr N 0 0) 1)) 2 ((thr N 0 (10 + j)) 1))))] _ from by have h := hw.ms hbj; rw [mset_s] at h; exact h) hS (MA.i (mk_ms hbj)) (show vp_in (nI 3) 5 from vp_in_nI (by decide) (by decide)) dX7_listen_132 (fun H1 locs hP1 z1 oq1 hS => ?_)
          rw [show Int32.toNatClampNeg 3 = 3 from clI 3 (by decide)] at hP1
          have hw := hw.setI hA (mk_ms hbj) (ml_ms hbj) hP1 oq1
          rw [mset_mset] at hw
          refine lv_aload_n hx hb dX7_listen_133 rfl (lv_at hl 1 rfl) ?_
          refine lv_iconst (v := 0) hx hb dX7_listen_134 (by decide) ?_
          refine k_iald (v := ((upd (upd (upd (upd (thr N 0 (20 + j)) 0 (((thr N 0 (20 + j)) 0) + 1)) 1 ((thr N 0 0) 1)) 2 ((thr N 0 (10 + j)) 1)) 3 (((thr N 0 (10 + j)) 3) + ((thr N 0 (30 + i)) 1))) 0)) hx hb hG (show va_P D vwCl [(md (20 + j), .inl (cy 0, 5, .inl (upd (upd (upd (upd (thr N 0 (20 + j)) 0 (((thr N 0 (20 + j)) 0) + 1)) 1 ((thr N 0 0) 1)) 2 ((thr N 0 (10 + j)) 1)) 3 (((thr N 0 (10 + j)) 3) + ((thr N 0 (30 + i)) 1)))))] _ from by have h := hw.ms hbj; rw [mset_s] at h; exact h) (show vp_in (nI 0) 5 from vp_in_nI (by decide) (by decide)) (congrArg (upd (upd (upd (upd (thr N 0 (20 + j)) 0 (((thr N 0 (20 + j)) 0) + 1)) 1 ((thr N 0 0) 1)) 2 ((thr N 0 (10 + j)) 1)) 3 (((thr N 0 (10 + j)) 3) + ((thr N 0 (30 + i)) 1))) (clI 0 (by decide))) dX7_listen_135 ?_
          exact ke_ui hx hb hr hlk hS dX7_listen_136 (Or.inr (Or.inr ⟨by unfold kLisM; rw [if_pos c_10, if_pos c_18, nI_clamp (by have := hbj; omega), nI_clamp (by have := hbi; omega), if_neg c_34], i, j, hi, hj, rfl, rfl, (by unfold mListenT; rw [if_pos c_72] <;> rfl), (by unfold mListenT; rw [if_pos c_72]; exact hw)⟩))
        · refine lv_aload_n hx hb dX7_listen_75 rfl (lv_at hl 2 rfl) ?_
          refine lv_iload_n hx hb dX7_listen_76 rfl (lv_at hl 4 rfl) ?_
          refine kc_i (kr_V (As := [.int (nI j)]) (rest := []) hx hb hml hown hG (c_X7_since l D cy md (thr N 0) co su j hbj) cf_X7_since wM_X7_67 hw.o rfl hw ⟨rfl, rfl, by decide, by decide⟩ rfl rfl (Nat.le_of_ble_eq_true rfl) ⟨Nat.le_of_ble_eq_true rfl, Nat.le_of_ble_eq_true rfl⟩ dX7_listen_77) ?_
          refine lv_if_le (tgt := 103) hx hb dX7_listen_80 (by decide) (fun c_80 => ?_) (fun c_80 => ?_)
          · refine lv_aload_n hx hb dX7_listen_103 rfl (lv_at hl 1 rfl) ?_
            refine lv_iconst (v := 0) hx hb dX7_listen_104 (by decide) ?_
            refine lv_dup2_11 hx hb dX7_listen_105 rfl rfl ?_
            refine k_iald (v := ((thr N 0 (20 + j)) 0)) hx hb hG (hw.ms hbj) (show vp_in (nI 0) 5 from vp_in_nI (by decide) (by decide)) (congrArg (thr N 0 (20 + j)) (clI 0 (by decide))) dX7_listen_106 ?_
            refine lv_iconst (v := 1) hx hb dX7_listen_107 (by decide) ?_
            refine lv_iadd hx hb dX7_listen_108 ?_
            refine k_iast hx hb hG (hw.ms hbj) hS (MA.i (mk_ms hbj)) (show vp_in (nI 0) 5 from vp_in_nI (by decide) (by decide)) dX7_listen_109 (fun H1 locs hP1 z1 oq1 hS => ?_)
            rw [show Int32.toNatClampNeg 0 = 0 from clI 0 (by decide)] at hP1
            have hw := hw.setI hA (mk_ms hbj) (ml_ms hbj) hP1 oq1
            refine lv_aload_n hx hb dX7_listen_110 rfl (lv_at hl 1 rfl) ?_
            refine lv_iconst (v := 1) hx hb dX7_listen_111 (by decide) ?_
            refine lv_aload_n hx hb dX7_listen_112 rfl (lv_at hl 2 rfl) ?_
            refine k_get (ci := 7) (C := RX7) (T := TX7) (N := 20) (v := .int ((thr N 0 0) 1)) hx hb hown hG rfl kin_X7 (show va_P D vwCl [(md 0, .inr (7, [.int ((thr N 0 0) 0), .int ((thr N 0 0) 1), .int ((thr N 0 0) 2), .ref (md 1), .ref (md 2), .ref (md 3), .ref (md 4), .ref (md 5), .int ((thr N 0 0) 8), .int ((thr N 0 0) 9), .int ((thr N 0 0) 10), .ref (md 6), .ref (md 7), .ref (md 8), .ref (md 9), .int ((thr N 0 0) 15), .int ((thr N 0 0) 16), .int ((thr N 0 0) 17), .long co, .long su]))] _ from by have h := hw.o; unfold mO at h; rw [mset_n (show (0 : Nat) ≠ 20 + j by omega)] at h; exact h) 1 (by decide) wF_X7_64 rfl dX7_listen_113 ?_
            refine k_iast hx hb hG (show va_P D vwCl [(md (20 + j), .inl (cy 0, 5, .inl (upd (thr N 0 (20 + j)) 0 (((thr N 0 (20 + j)) 0) + 1))))] _ from by have h := hw.ms hbj; rw [mset_s] at h; exact h) hS (MA.i (mk_ms hbj)) (show vp_in (nI 1) 5 from vp_in_nI (by decide) (by decide)) dX7_listen_116 (fun H1 locs hP1 z1 oq1 hS => ?_)
            rw [show Int32.toNatClampNeg 1 = 1 from clI 1 (by decide)] at hP1
            have hw := hw.setI hA (mk_ms hbj) (ml_ms hbj) hP1 oq1
            rw [mset_mset] at hw
            refine lv_aload_n hx hb dX7_listen_117 rfl (lv_at hl 1 rfl) ?_
            refine lv_iconst (v := 2) hx hb dX7_listen_118 (by decide) ?_
            refine lv_aload_n hx hb dX7_listen_119 rfl (lv_at hl 2 rfl) ?_
            refine k_get (ci := 7) (C := RX7) (T := TX7) (N := 20) (v := .ref (md 1)) hx hb hown hG rfl kin_X7 (show va_P D vwCl [(md 0, .inr (7, [.int ((thr N 0 0) 0), .int ((thr N 0 0) 1), .int ((thr N 0 0) 2), .ref (md 1), .ref (md 2), .ref (md 3), .ref (md 4), .ref (md 5), .int ((thr N 0 0) 8), .int ((thr N 0 0) 9), .int ((thr N 0 0) 10), .ref (md 6), .ref (md 7), .ref (md 8), .ref (md 9), .int ((thr N 0 0) 15), .int ((thr N 0 0) 16), .int ((thr N 0 0) 17), .long co, .long su]))] _ from by have h := hw.o; unfold mO at h; rw [mset_n (show (0 : Nat) ≠ 20 + j by omega)] at h; exact h) 3 (by decide) wF_X7_11 rfl dX7_listen_120 ?_
            refine lv_iload_n hx hb dX7_listen_123 rfl (lv_at hl 4 rfl) ?_
            refine k_ald2 (v := (md (10 + j))) hx hb hG 5 rfl hw.a1 (vp_in_nI (n := j) hbj (by decide)) (mo_st hbj) dX7_listen_124 ?_
            refine lv_iconst (v := 1) hx hb dX7_listen_125 (by decide) ?_
            refine k_iald (v := ((thr N 0 (10 + j)) 1)) hx hb hG (show va_P D vwCl [(md (10 + j), .inl (cy 0, 6, .inl (thr N 0 (10 + j))))] _ from by have h := hw.st hbj; rw [mset_n (show (10 + j : Nat) ≠ 20 + j by omega)] at h; exact h) (show vp_in (nI 1) 6 from vp_in_nI (by decide) (by decide)) (congrArg (thr N 0 (10 + j)) (clI 1 (by decide))) dX7_listen_126 ?_
            refine k_iast hx hb hG (show va_P D vwCl [(md (20 + j), .inl (cy 0, 5, .inl (upd (upd (thr N 0 (20 + j)) 0 (((thr N 0 (20 + j)) 0) + 1)) 1 ((thr N 0 0) 1))))] _ from by have h := hw.ms hbj; rw [mset_s] at h; exact h) hS (MA.i (mk_ms hbj)) (show vp_in (nI 2) 5 from vp_in_nI (by decide) (by decide)) dX7_listen_127 (fun H1 locs hP1 z1 oq1 hS => ?_)
            rw [show Int32.toNatClampNeg 2 = 2 from clI 2 (by decide)] at hP1
            have hw := hw.setI hA (mk_ms hbj) (ml_ms hbj) hP1 oq1
            rw [mset_mset] at hw
            refine lv_aload_n hx hb dX7_listen_128 rfl (lv_at hl 1 rfl) ?_
            refine lv_iconst (v := 3) hx hb dX7_listen_129 (by decide) ?_
            refine lv_iload hx hb dX7_listen_130 (lv_at hl 0 rfl) ?_
            refine k_iast hx hb hG (show va_P D vwCl [(md (20 + j), .inl (cy 0, 5, .inl (upd (upd (upd (thr N 0 (20 + j)) 0 (((thr N 0 (20 + j)) 0) + 1)) 1 ((thr N 0 0) 1)) 2 ((thr N 0 (10 + j)) 1))))] _ from by have h := hw.ms hbj; rw [mset_s] at h; exact h) hS (MA.i (mk_ms hbj)) (show vp_in (nI 3) 5 from vp_in_nI (by decide) (by decide)) dX7_listen_132 (fun H1 locs hP1 z1 oq1 hS => ?_)
            rw [show Int32.toNatClampNeg 3 = 3 from clI 3 (by decide)] at hP1
            have hw := hw.setI hA (mk_ms hbj) (ml_ms hbj) hP1 oq1
            rw [mset_mset] at hw
            refine lv_aload_n hx hb dX7_listen_133 rfl (lv_at hl 1 rfl) ?_
            refine lv_iconst (v := 0) hx hb dX7_listen_134 (by decide) ?_
            refine k_iald (v := ((upd (upd (upd (upd (thr N 0 (20 + j)) 0 (((thr N 0 (20 + j)) 0) + 1)) 1 ((thr N 0 0) 1)) 2 ((thr N 0 (10 + j)) 1)) 3 (((thr N 0 (10 + j)) 3) + ((thr N 0 (30 + i)) 1))) 0)) hx hb hG (show va_P D vwCl [(md (20 + j), .inl (cy 0, 5, .inl (upd (upd (upd (upd (thr N 0 (20 + j)) 0 (((thr N 0 (20 + j)) 0) + 1)) 1 ((thr N 0 0) 1)) 2 ((thr N 0 (10 + j)) 1)) 3 (((thr N 0 (10 + j)) 3) + ((thr N 0 (30 + i)) 1)))))] _ from by have h := hw.ms hbj; rw [mset_s] at h; exact h) (show vp_in (nI 0) 5 from vp_in_nI (by decide) (by decide)) (congrArg (upd (upd (upd (upd (thr N 0 (20 + j)) 0 (((thr N 0 (20 + j)) 0) + 1)) 1 ((thr N 0 0) 1)) 2 ((thr N 0 (10 + j)) 1)) 3 (((thr N 0 (10 + j)) 3) + ((thr N 0 (30 + i)) 1))) (clI 0 (by decide))) dX7_listen_135 ?_
            exact ke_ui hx hb hr hlk hS dX7_listen_136 (Or.inr (Or.inr ⟨by unfold kLisM; rw [if_pos c_10, if_pos c_18, nI_clamp (by have := hbj; omega), nI_clamp (by have := hbi; omega), if_neg c_34], i, j, hi, hj, rfl, rfl, (by unfold mListenT; rw [if_neg c_72, if_pos c_80] <;> rfl), (by unfold mListenT; rw [if_neg c_72, if_pos c_80]; exact hw)⟩))
          · refine lv_aload_n hx hb dX7_listen_83 rfl (lv_at hl 1 rfl) ?_
            refine lv_iconst (v := 4) hx hb dX7_listen_84 (by decide) ?_
            refine lv_iload hx hb dX7_listen_85 (lv_at hl 0 rfl) ?_
            refine lv_aload_n hx hb dX7_listen_87 rfl (lv_at hl 1 rfl) ?_
            refine lv_iconst (v := 3) hx hb dX7_listen_88 (by decide) ?_
            refine k_iald (v := ((thr N 0 (20 + j)) 3)) hx hb hG (hw.ms hbj) (show vp_in (nI 3) 5 from vp_in_nI (by decide) (by decide)) (congrArg (thr N 0 (20 + j)) (clI 3 (by decide))) dX7_listen_89 ?_
            refine lv_isub hx hb dX7_listen_90 ?_
            refine lv_aload_n hx hb dX7_listen_91 rfl (lv_at hl 2 rfl) ?_
            refine lv_iload_n hx hb dX7_listen_92 rfl (lv_at hl 4 rfl) ?_
            refine kc_i (kr_V (As := [.int (nI j)]) (rest := [.int ((((thr N 0 (10 + j)) 3) + ((thr N 0 (30 + i)) 1)) - ((thr N 0 (20 + j)) 3)), .int 4, .ref (md (20 + j))]) hx hb hml hown hG (c_X7_since l D cy md (thr N 0) co su j hbj) cf_X7_since wM_X7_67 hw.o rfl hw ⟨rfl, rfl, by decide, by decide⟩ rfl rfl (Nat.le_of_ble_eq_true rfl) ⟨Nat.le_of_ble_eq_true rfl, Nat.le_of_ble_eq_true rfl⟩ dX7_listen_93) ?_
            refine lv_idiv hx hb dX7_listen_96 (fun q => c_80 (by rw [q]; decide)) ?_
            refine lv_bipush (v := 9) hx hb dX7_listen_97 (by decide) ?_
            refine kc_i (kr_S (As := [.int (((((thr N 0 (10 + j)) 3) + ((thr N 0 (30 + i)) 1)) - ((thr N 0 (20 + j)) 3)) / ((thr N 0) 0 1 - (thr N 0) (20 + j) 1)), .int 9]) (rest := [.int 4, .ref (md (20 + j))]) hx hb hml hown hG (c_X7_held l D cy (((((thr N 0 (10 + j)) 3) + ((thr N 0 (30 + i)) 1)) - ((thr N 0 (20 + j)) 3)) / ((thr N 0) 0 1 - (thr N 0) (20 + j) 1)) 9) cf_X7_held wM_X7_102 trivial ⟨rfl, rfl, by decide, by decide⟩ rfl rfl (Nat.le_of_ble_eq_true rfl) ⟨Nat.le_of_ble_eq_true rfl, Nat.le_of_ble_eq_true rfl⟩ dX7_listen_99) ?_
            refine k_iast hx hb hG (hw.ms hbj) hS (MA.i (mk_ms hbj)) (show vp_in (nI 4) 5 from vp_in_nI (by decide) (by decide)) dX7_listen_102 (fun H1 locs hP1 z1 oq1 hS => ?_)
            rw [show Int32.toNatClampNeg 4 = 4 from clI 4 (by decide)] at hP1
            have hw := hw.setI hA (mk_ms hbj) (ml_ms hbj) hP1 oq1
            refine lv_aload_n hx hb dX7_listen_103 rfl (lv_at hl 1 rfl) ?_
            refine lv_iconst (v := 0) hx hb dX7_listen_104 (by decide) ?_
            refine lv_dup2_11 hx hb dX7_listen_105 rfl rfl ?_
            refine k_iald (v := ((upd (thr N 0 (20 + j)) 4 (pHeld (((((thr N 0 (10 + j)) 3) + ((thr N 0 (30 + i)) 1)) - ((thr N 0 (20 + j)) 3)) / ((thr N 0) 0 1 - (thr N 0) (20 + j) 1)) 9)) 0)) hx hb hG (show va_P D vwCl [(md (20 + j), .inl (cy 0, 5, .inl (upd (thr N 0 (20 + j)) 4 (pHeld (((((thr N 0 (10 + j)) 3) + ((thr N 0 (30 + i)) 1)) - ((thr N 0 (20 + j)) 3)) / ((thr N 0) 0 1 - (thr N 0) (20 + j) 1)) 9))))] _ from by have h := hw.ms hbj; rw [mset_s] at h; exact h) (show vp_in (nI 0) 5 from vp_in_nI (by decide) (by decide)) (congrArg (upd (thr N 0 (20 + j)) 4 (pHeld (((((thr N 0 (10 + j)) 3) + ((thr N 0 (30 + i)) 1)) - ((thr N 0 (20 + j)) 3)) / ((thr N 0) 0 1 - (thr N 0) (20 + j) 1)) 9)) (clI 0 (by decide))) dX7_listen_106 ?_
            refine lv_iconst (v := 1) hx hb dX7_listen_107 (by decide) ?_
            refine lv_iadd hx hb dX7_listen_108 ?_
            refine k_iast hx hb hG (show va_P D vwCl [(md (20 + j), .inl (cy 0, 5, .inl (upd (thr N 0 (20 + j)) 4 (pHeld (((((thr N 0 (10 + j)) 3) + ((thr N 0 (30 + i)) 1)) - ((thr N 0 (20 + j)) 3)) / ((thr N 0) 0 1 - (thr N 0) (20 + j) 1)) 9))))] _ from by have h := hw.ms hbj; rw [mset_s] at h; exact h) hS (MA.i (mk_ms hbj)) (show vp_in (nI 0) 5 from vp_in_nI (by decide) (by decide)) dX7_listen_109 (fun H1 locs hP1 z1 oq1 hS => ?_)
            rw [show Int32.toNatClampNeg 0 = 0 from clI 0 (by decide)] at hP1
            have hw := hw.setI hA (mk_ms hbj) (ml_ms hbj) hP1 oq1
            rw [mset_mset] at hw
            refine lv_aload_n hx hb dX7_listen_110 rfl (lv_at hl 1 rfl) ?_
            refine lv_iconst (v := 1) hx hb dX7_listen_111 (by decide) ?_
            refine lv_aload_n hx hb dX7_listen_112 rfl (lv_at hl 2 rfl) ?_
            refine k_get (ci := 7) (C := RX7) (T := TX7) (N := 20) (v := .int ((thr N 0 0) 1)) hx hb hown hG rfl kin_X7 (show va_P D vwCl [(md 0, .inr (7, [.int ((thr N 0 0) 0), .int ((thr N 0 0) 1), .int ((thr N 0 0) 2), .ref (md 1), .ref (md 2), .ref (md 3), .ref (md 4), .ref (md 5), .int ((thr N 0 0) 8), .int ((thr N 0 0) 9), .int ((thr N 0 0) 10), .ref (md 6), .ref (md 7), .ref (md 8), .ref (md 9), .int ((thr N 0 0) 15), .int ((thr N 0 0) 16), .int ((thr N 0 0) 17), .long co, .long su]))] _ from by have h := hw.o; unfold mO at h; rw [mset_n (show (0 : Nat) ≠ 20 + j by omega)] at h; exact h) 1 (by decide) wF_X7_64 rfl dX7_listen_113 ?_
            refine k_iast hx hb hG (show va_P D vwCl [(md (20 + j), .inl (cy 0, 5, .inl (upd (upd (thr N 0 (20 + j)) 4 (pHeld (((((thr N 0 (10 + j)) 3) + ((thr N 0 (30 + i)) 1)) - ((thr N 0 (20 + j)) 3)) / ((thr N 0) 0 1 - (thr N 0) (20 + j) 1)) 9)) 0 (((upd (thr N 0 (20 + j)) 4 (pHeld (((((thr N 0 (10 + j)) 3) + ((thr N 0 (30 + i)) 1)) - ((thr N 0 (20 + j)) 3)) / ((thr N 0) 0 1 - (thr N 0) (20 + j) 1)) 9)) 0) + 1))))] _ from by have h := hw.ms hbj; rw [mset_s] at h; exact h) hS (MA.i (mk_ms hbj)) (show vp_in (nI 1) 5 from vp_in_nI (by decide) (by decide)) dX7_listen_116 (fun H1 locs hP1 z1 oq1 hS => ?_)
            rw [show Int32.toNatClampNeg 1 = 1 from clI 1 (by decide)] at hP1
            have hw := hw.setI hA (mk_ms hbj) (ml_ms hbj) hP1 oq1
            rw [mset_mset] at hw
            refine lv_aload_n hx hb dX7_listen_117 rfl (lv_at hl 1 rfl) ?_
            refine lv_iconst (v := 2) hx hb dX7_listen_118 (by decide) ?_
            refine lv_aload_n hx hb dX7_listen_119 rfl (lv_at hl 2 rfl) ?_
            refine k_get (ci := 7) (C := RX7) (T := TX7) (N := 20) (v := .ref (md 1)) hx hb hown hG rfl kin_X7 (show va_P D vwCl [(md 0, .inr (7, [.int ((thr N 0 0) 0), .int ((thr N 0 0) 1), .int ((thr N 0 0) 2), .ref (md 1), .ref (md 2), .ref (md 3), .ref (md 4), .ref (md 5), .int ((thr N 0 0) 8), .int ((thr N 0 0) 9), .int ((thr N 0 0) 10), .ref (md 6), .ref (md 7), .ref (md 8), .ref (md 9), .int ((thr N 0 0) 15), .int ((thr N 0 0) 16), .int ((thr N 0 0) 17), .long co, .long su]))] _ from by have h := hw.o; unfold mO at h; rw [mset_n (show (0 : Nat) ≠ 20 + j by omega)] at h; exact h) 3 (by decide) wF_X7_11 rfl dX7_listen_120 ?_
            refine lv_iload_n hx hb dX7_listen_123 rfl (lv_at hl 4 rfl) ?_
            refine k_ald2 (v := (md (10 + j))) hx hb hG 5 rfl hw.a1 (vp_in_nI (n := j) hbj (by decide)) (mo_st hbj) dX7_listen_124 ?_
            refine lv_iconst (v := 1) hx hb dX7_listen_125 (by decide) ?_
            refine k_iald (v := ((thr N 0 (10 + j)) 1)) hx hb hG (show va_P D vwCl [(md (10 + j), .inl (cy 0, 6, .inl (thr N 0 (10 + j))))] _ from by have h := hw.st hbj; rw [mset_n (show (10 + j : Nat) ≠ 20 + j by omega)] at h; exact h) (show vp_in (nI 1) 6 from vp_in_nI (by decide) (by decide)) (congrArg (thr N 0 (10 + j)) (clI 1 (by decide))) dX7_listen_126 ?_
            refine k_iast hx hb hG (show va_P D vwCl [(md (20 + j), .inl (cy 0, 5, .inl (upd (upd (upd (thr N 0 (20 + j)) 4 (pHeld (((((thr N 0 (10 + j)) 3) + ((thr N 0 (30 + i)) 1)) - ((thr N 0 (20 + j)) 3)) / ((thr N 0) 0 1 - (thr N 0) (20 + j) 1)) 9)) 0 (((upd (thr N 0 (20 + j)) 4 (pHeld (((((thr N 0 (10 + j)) 3) + ((thr N 0 (30 + i)) 1)) - ((thr N 0 (20 + j)) 3)) / ((thr N 0) 0 1 - (thr N 0) (20 + j) 1)) 9)) 0) + 1)) 1 ((thr N 0 0) 1))))] _ from by have h := hw.ms hbj; rw [mset_s] at h; exact h) hS (MA.i (mk_ms hbj)) (show vp_in (nI 2) 5 from vp_in_nI (by decide) (by decide)) dX7_listen_127 (fun H1 locs hP1 z1 oq1 hS => ?_)
            rw [show Int32.toNatClampNeg 2 = 2 from clI 2 (by decide)] at hP1
            have hw := hw.setI hA (mk_ms hbj) (ml_ms hbj) hP1 oq1
            rw [mset_mset] at hw
            refine lv_aload_n hx hb dX7_listen_128 rfl (lv_at hl 1 rfl) ?_
            refine lv_iconst (v := 3) hx hb dX7_listen_129 (by decide) ?_
            refine lv_iload hx hb dX7_listen_130 (lv_at hl 0 rfl) ?_
            refine k_iast hx hb hG (show va_P D vwCl [(md (20 + j), .inl (cy 0, 5, .inl (upd (upd (upd (upd (thr N 0 (20 + j)) 4 (pHeld (((((thr N 0 (10 + j)) 3) + ((thr N 0 (30 + i)) 1)) - ((thr N 0 (20 + j)) 3)) / ((thr N 0) 0 1 - (thr N 0) (20 + j) 1)) 9)) 0 (((upd (thr N 0 (20 + j)) 4 (pHeld (((((thr N 0 (10 + j)) 3) + ((thr N 0 (30 + i)) 1)) - ((thr N 0 (20 + j)) 3)) / ((thr N 0) 0 1 - (thr N 0) (20 + j) 1)) 9)) 0) + 1)) 1 ((thr N 0 0) 1)) 2 ((thr N 0 (10 + j)) 1))))] _ from by have h := hw.ms hbj; rw [mset_s] at h; exact h) hS (MA.i (mk_ms hbj)) (show vp_in (nI 3) 5 from vp_in_nI (by decide) (by decide)) dX7_listen_132 (fun H1 locs hP1 z1 oq1 hS => ?_)
            rw [show Int32.toNatClampNeg 3 = 3 from clI 3 (by decide)] at hP1
            have hw := hw.setI hA (mk_ms hbj) (ml_ms hbj) hP1 oq1
            rw [mset_mset] at hw
            refine lv_aload_n hx hb dX7_listen_133 rfl (lv_at hl 1 rfl) ?_
            refine lv_iconst (v := 0) hx hb dX7_listen_134 (by decide) ?_
            refine k_iald (v := ((upd (upd (upd (upd (upd (thr N 0 (20 + j)) 4 (pHeld (((((thr N 0 (10 + j)) 3) + ((thr N 0 (30 + i)) 1)) - ((thr N 0 (20 + j)) 3)) / ((thr N 0) 0 1 - (thr N 0) (20 + j) 1)) 9)) 0 (((upd (thr N 0 (20 + j)) 4 (pHeld (((((thr N 0 (10 + j)) 3) + ((thr N 0 (30 + i)) 1)) - ((thr N 0 (20 + j)) 3)) / ((thr N 0) 0 1 - (thr N 0) (20 + j) 1)) 9)) 0) + 1)) 1 ((thr N 0 0) 1)) 2 ((thr N 0 (10 + j)) 1)) 3 (((thr N 0 (10 + j)) 3) + ((thr N 0 (30 + i)) 1))) 0)) hx hb hG (show va_P D vwCl [(md (20 + j), .inl (cy 0, 5, .inl (upd (upd (upd (upd (upd (thr N 0 (20 + j)) 4 (pHeld (((((thr N 0 (10 + j)) 3) + ((thr N 0 (30 + i)) 1)) - ((thr N 0 (20 + j)) 3)) / ((thr N 0) 0 1 - (thr N 0) (20 + j) 1)) 9)) 0 (((upd (thr N 0 (20 + j)) 4 (pHeld (((((thr N 0 (10 + j)) 3) + ((thr N 0 (30 + i)) 1)) - ((thr N 0 (20 + j)) 3)) / ((thr N 0) 0 1 - (thr N 0) (20 + j) 1)) 9)) 0) + 1)) 1 ((thr N 0 0) 1)) 2 ((thr N 0 (10 + j)) 1)) 3 (((thr N 0 (10 + j)) 3) + ((thr N 0 (30 + i)) 1)))))] _ from by have h := hw.ms hbj; rw [mset_s] at h; exact h) (show vp_in (nI 0) 5 from vp_in_nI (by decide) (by decide)) (congrArg (upd (upd (upd (upd (upd (thr N 0 (20 + j)) 4 (pHeld (((((thr N 0 (10 + j)) 3) + ((thr N 0 (30 + i)) 1)) - ((thr N 0 (20 + j)) 3)) / ((thr N 0) 0 1 - (thr N 0) (20 + j) 1)) 9)) 0 (((upd (thr N 0 (20 + j)) 4 (pHeld (((((thr N 0 (10 + j)) 3) + ((thr N 0 (30 + i)) 1)) - ((thr N 0 (20 + j)) 3)) / ((thr N 0) 0 1 - (thr N 0) (20 + j) 1)) 9)) 0) + 1)) 1 ((thr N 0 0) 1)) 2 ((thr N 0 (10 + j)) 1)) 3 (((thr N 0 (10 + j)) 3) + ((thr N 0 (30 + i)) 1))) (clI 0 (by decide))) dX7_listen_135 ?_
            exact ke_ui hx hb hr hlk hS dX7_listen_136 (Or.inr (Or.inr ⟨by unfold kLisM; rw [if_pos c_10, if_pos c_18, nI_clamp (by have := hbj; omega), nI_clamp (by have := hbi; omega), if_neg c_34], i, j, hi, hj, rfl, rfl, (by unfold mListenT; rw [if_neg c_72, if_neg c_80] <;> rfl), (by unfold mListenT; rw [if_neg c_72, if_neg c_80]; exact hw)⟩))
      · refine lv_aload_n hx hb dX7_listen_37 rfl (lv_at hl 0 rfl) ?_
        refine lv_iconst (v := 2) hx hb dX7_listen_38 (by decide) ?_
        refine kc_ui (kr_V (As := [.int 2]) (rest := []) hx hb hml hown hG (c_X7_refuse l D cy md (thr N 0) co su hA 2) cf_X7_refuse wM_X7_95 hw.o rfl hw ⟨rfl, rfl, by decide, by decide⟩ rfl rfl (Nat.le_of_ble_eq_true rfl) ⟨Nat.le_of_ble_eq_true rfl, Nat.le_of_ble_eq_true rfl⟩ dX7_listen_39) hS (fun _ h => h) (fun r_39 H1 locs hp1 z1 oq1 hS => ?_)
        obtain ⟨e9, hw⟩ := hp1
        subst e9
        rw [thr_thr] at hw
        exact ke_ui hx hb hr hlk hS dX7_listen_42 (Or.inr (Or.inl ⟨by unfold kLisM; rw [if_pos c_10, if_pos c_18, nI_clamp (by have := hbj; omega), nI_clamp (by have := hbi; omega), if_pos c_34], hw⟩))
    · have c_18 : ¬ bI (pOut x 0 (nI ns - 1)) = 0 := by have h := mIs_f c_18; rw [show thr N 0 0 8 = nI ns from hN.1] at h; exact h
      refine lv_aload_n hx hb dX7_listen_21 rfl (lv_at hl 0 rfl) ?_
      refine lv_iconst (v := 1) hx hb dX7_listen_22 (by decide) ?_
      refine kc_ui (kr_V (As := [.int 1]) (rest := []) hx hb hml hown hG (c_X7_refuse l D cy md (thr N 0) co su hA 1) cf_X7_refuse wM_X7_95 hw.o rfl hw ⟨rfl, rfl, by decide, by decide⟩ rfl rfl (Nat.le_of_ble_eq_true rfl) ⟨Nat.le_of_ble_eq_true rfl, Nat.le_of_ble_eq_true rfl⟩ dX7_listen_23) hS (fun _ h => h) (fun r_23 H1 locs hp1 z1 oq1 hS => ?_)
      obtain ⟨e9, hw⟩ := hp1
      subst e9
      rw [thr_thr] at hw
      exact ke_ui hx hb hr hlk hS dX7_listen_26 (Or.inl ⟨by unfold kLisM; rw [if_pos c_10, if_neg c_18], hw⟩)
set_option maxHeartbeats 4000000 in
set_option maxRecDepth 100000 in
theorem c_X7_health (l : Launch) (D : va_G) (cy : Nat → ClassId) (md : Nat → Nat) (N : Nat → Nat → Int32) (co su : Int64) (hA : MI md) (ns nt nr : Nat) (hL : LB ns nt nr) (hN : MN N ns nt nr) (x : Int32) (b : Bool) : Met l yX7_health [.code yX7_health cX7_health 4 (some .boolean)] ({ frames := 2, cells := 0, slots := 0, locals := 43 } : Room) (PC D cy [.ref (md 0), .int x, .int (bI b)] (fun H => MW D cy md N co su H)) (UQi (MA md) (mOut D cy md N co su (kOne ns x) (fun r H => ∃ i, i < ns ∧ x = nI i ∧ r = (if thr N 0 (10 + i) 5 = 1 then 1 else 0) ∧ MW D cy md (mset (thr N 0) (10 + i) (upd (thr N 0 (10 + i)) 5 (bI b))) co su H))) 0 0 (MA md) := by
  refine k_body (by decide +kernel) (Nat.le_of_ble_eq_true rfl) ?_
  intro p e s m below meth c ls hx hb hml hown hr hlk hmn hl hG hI
  have hml9 : c.maxLocals = 4 := hml.trans hl.1
  have hl : lv_has ls 4 [(0, .ref (md 0)), (1, .int x), (2, .int (bI b))] := hl
  have hS : va_S (MA md) s.heap s.heap [] := va_S.rf
  have hw := hI
  refine lv_aload_n hx hb dX7_health_0 rfl (lv_at hl 0 rfl) ?_
  refine lv_aload_n hx hb dX7_health_1 rfl (lv_at hl 0 rfl) ?_
  refine lv_iload_n hx hb dX7_health_2 rfl (lv_at hl 1 rfl) ?_
  refine kc_i (kr_V (As := [.int x]) (rest := [.ref (md 0)]) hx hb hml hown hG (c_X7_isStar l D cy md N co su x) cf_X7_isStar wM_X7_98 hw.o rfl hw ⟨rfl, rfl, by decide, by decide⟩ rfl rfl (Nat.le_of_ble_eq_true rfl) ⟨Nat.le_of_ble_eq_true rfl, Nat.le_of_ble_eq_true rfl⟩ dX7_health_3) ?_
  refine lv_if_eq (tgt := 13) hx hb dX7_health_6 (by decide) (fun c_6 => ?_) (fun c_6 => ?_)
  · have c_6 : ¬ bI (pOut x 0 (nI ns - 1)) = 0 := by have h := mIs_f c_6; rw [show N 0 8 = nI ns from hN.1] at h; exact h
    refine lv_iconst (v := 1) hx hb dX7_health_13 (by decide) ?_
    refine k_put (ci := 7) (C := RX7) (T := TX7) (N := 20) (v := .int 1) hx hb hown hG rfl kin_X7 tyX7 tyX7_ok nmX7 hw.o hS MA.o 0 (by decide) wF_X7_41 rfl rfl rfl (Nat.le_of_ble_eq_true rfl) dX7_health_14 (fun H1 locs hP1 z1 oq1 hS => ?_)
    have hw := hw.setO (r := (upd (N 0) 0 1)) (c' := co) (s' := su) hA hP1 oq1
    have hw : MW D cy md (thr N 1) co su H1 := hw
    refine lv_aload_n hx hb dX7_health_17 rfl (lv_at hl 0 rfl) ?_
    refine k_get (ci := 7) (C := RX7) (T := TX7) (N := 20) (v := .int ((thr N 1 0) 0)) hx hb hown hG rfl kin_X7 hw.o 0 (by decide) wF_X7_41 rfl dX7_health_18 ?_
    refine lv_if_le (tgt := 26) hx hb dX7_health_21 (by decide) (fun q9 => absurd q9 (show ¬ (1 : Int32) ≤ 0 by decide)) (fun _ => ?_)
    refine lv_iconst (v := 0) hx hb dX7_health_24 (by decide) ?_
    exact ke_uz (b := false) hx hb hr hlk hS dX7_health_25 rfl (Or.inl ⟨by unfold kOne; rw [if_neg c_6], hw⟩)
  · have c_6 : bI (pOut x 0 (nI ns - 1)) = 0 := by have h := mIs_t c_6; rw [show N 0 8 = nI ns from hN.1] at h; exact h
    obtain ⟨i, hi, ei⟩ := pOut_f hL.1 c_6
    subst ei
    have hbi := Nat.lt_of_lt_of_le hi hL.1
    refine lv_iconst (v := 0) hx hb dX7_health_9 (by decide) ?_
    refine lv_goto (tgt := 14) hx hb dX7_health_10 (by decide) ?_
    refine k_put (ci := 7) (C := RX7) (T := TX7) (N := 20) (v := .int 0) hx hb hown hG rfl kin_X7 tyX7 tyX7_ok nmX7 hw.o hS MA.o 0 (by decide) wF_X7_41 rfl rfl rfl (Nat.le_of_ble_eq_true rfl) dX7_health_14 (fun H1 locs hP1 z1 oq1 hS => ?_)
    have hw := hw.setO (r := (upd (N 0) 0 0)) (c' := co) (s' := su) hA hP1 oq1
    have hw : MW D cy md (thr N 0) co su H1 := hw
    refine lv_aload_n hx hb dX7_health_17 rfl (lv_at hl 0 rfl) ?_
    refine k_get (ci := 7) (C := RX7) (T := TX7) (N := 20) (v := .int ((thr N 0 0) 0)) hx hb hown hG rfl kin_X7 hw.o 0 (by decide) wF_X7_41 rfl dX7_health_18 ?_
    refine lv_if_le (tgt := 26) hx hb dX7_health_21 (by decide) (fun _ => ?_) (fun q9 => absurd (show (0 : Int32) ≤ 0 by decide) q9)
    refine lv_aload_n hx hb dX7_health_26 rfl (lv_at hl 0 rfl) ?_
    refine k_get (ci := 7) (C := RX7) (T := TX7) (N := 20) (v := .ref (md 1)) hx hb hown hG rfl kin_X7 hw.o 3 (by decide) wF_X7_11 rfl dX7_health_27 ?_
    refine lv_iload_n hx hb dX7_health_30 rfl (lv_at hl 1 rfl) ?_
    refine k_ald2 (v := (md (10 + i))) hx hb hG 5 rfl hw.a1 (vp_in_nI (n := i) hbi (by decide)) (mo_st hbi) dX7_health_31 ?_
    refine lv_iconst (v := 5) hx hb dX7_health_32 (by decide) ?_
    refine k_iald (v := ((thr N 0 (10 + i)) 5)) hx hb hG (hw.st hbi) (show vp_in (nI 5) 6 from vp_in_nI (by decide) (by decide)) (congrArg (thr N 0 (10 + i)) (clI 5 (by decide))) dX7_health_33 ?_
    refine lv_iconst (v := 1) hx hb dX7_health_34 (by decide) ?_
    refine lv_icmp_ne (tgt := 42) hx hb dX7_health_35 (by decide) (fun c_35 => ?_) (fun c_35 => ?_)
    · refine lv_iconst (v := 0) hx hb dX7_health_42 (by decide) ?_
      refine lv_istore_n (lv' := [(3, .int 0), (0, .ref (md 0)), (1, .int (nI i)), (2, .int (bI b))]) hx hb dX7_health_43 rfl hl (by decide) rfl (fun ls hl => ?_)
      have hml : c.maxLocals = ls.size := hml9.trans hl.1.symm
      refine lv_aload_n hx hb dX7_health_44 rfl (lv_at hl 1 rfl) ?_
      refine k_get (ci := 7) (C := RX7) (T := TX7) (N := 20) (v := .ref (md 1)) hx hb hown hG rfl kin_X7 hw.o 3 (by decide) wF_X7_11 rfl dX7_health_45 ?_
      refine lv_iload_n hx hb dX7_health_48 rfl (lv_at hl 2 rfl) ?_
      refine k_ald2 (v := (md (10 + i))) hx hb hG 5 rfl hw.a1 (vp_in_nI (n := i) hbi (by decide)) (mo_st hbi) dX7_health_49 ?_
      refine lv_iconst (v := 5) hx hb dX7_health_50 (by decide) ?_
      refine lv_iload_n hx hb dX7_health_51 rfl (lv_at hl 3 rfl) ?_
      refine lv_if_eq (tgt := 59) hx hb dX7_health_52 (by decide) (fun c_52 => ?_) (fun c_52 => ?_)
      · obtain rfl := bI_f c_52
        refine lv_iconst (v := 0) hx hb dX7_health_59 (by decide) ?_
        refine k_iast hx hb hG (hw.st hbi) hS (MA.i (mk_st hbi)) (show vp_in (nI 5) 6 from vp_in_nI (by decide) (by decide)) dX7_health_60 (fun H1 locs hP1 z1 oq1 hS => ?_)
        rw [show Int32.toNatClampNeg 5 = 5 from clI 5 (by decide)] at hP1
        have hw := hw.setI hA (mk_st hbi) (ml_st hbi) hP1 oq1
        refine lv_iload_n hx hb dX7_health_61 rfl (lv_at hl 0 rfl) ?_
        exact ke_uz (b := false) hx hb hr hlk hS dX7_health_62 rfl (Or.inr (Or.inr ⟨by unfold kOne; rw [if_pos c_6], i, hi, rfl, (by rw [if_neg c_35]; rfl), hw⟩))
      · obtain rfl := bI_t c_52
        refine lv_iconst (v := 1) hx hb dX7_health_55 (by decide) ?_
        refine lv_goto (tgt := 60) hx hb dX7_health_56 (by decide) ?_
        refine k_iast hx hb hG (hw.st hbi) hS (MA.i (mk_st hbi)) (show vp_in (nI 5) 6 from vp_in_nI (by decide) (by decide)) dX7_health_60 (fun H1 locs hP1 z1 oq1 hS => ?_)
        rw [show Int32.toNatClampNeg 5 = 5 from clI 5 (by decide)] at hP1
        have hw := hw.setI hA (mk_st hbi) (ml_st hbi) hP1 oq1
        refine lv_iload_n hx hb dX7_health_61 rfl (lv_at hl 0 rfl) ?_
        exact ke_uz (b := false) hx hb hr hlk hS dX7_health_62 rfl (Or.inr (Or.inr ⟨by unfold kOne; rw [if_pos c_6], i, hi, rfl, (by rw [if_neg c_35]; rfl), hw⟩))
    · refine lv_iconst (v := 1) hx hb dX7_health_38 (by decide) ?_
      refine lv_goto (tgt := 43) hx hb dX7_health_39 (by decide) ?_
      refine lv_istore_n (lv' := [(3, .int 1), (0, .ref (md 0)), (1, .int (nI i)), (2, .int (bI b))]) hx hb dX7_health_43 rfl hl (by decide) rfl (fun ls hl => ?_)
      have hml : c.maxLocals = ls.size := hml9.trans hl.1.symm
      refine lv_aload_n hx hb dX7_health_44 rfl (lv_at hl 1 rfl) ?_
      refine k_get (ci := 7) (C := RX7) (T := TX7) (N := 20) (v := .ref (md 1)) hx hb hown hG rfl kin_X7 hw.o 3 (by decide) wF_X7_11 rfl dX7_health_45 ?_
      refine lv_iload_n hx hb dX7_health_48 rfl (lv_at hl 2 rfl) ?_
      refine k_ald2 (v := (md (10 + i))) hx hb hG 5 rfl hw.a1 (vp_in_nI (n := i) hbi (by decide)) (mo_st hbi) dX7_health_49 ?_
      refine lv_iconst (v := 5) hx hb dX7_health_50 (by decide) ?_
      refine lv_iload_n hx hb dX7_health_51 rfl (lv_at hl 3 rfl) ?_
      refine lv_if_eq (tgt := 59) hx hb dX7_health_52 (by decide) (fun c_52 => ?_) (fun c_52 => ?_)
      · obtain rfl := bI_f c_52
        refine lv_iconst (v := 0) hx hb dX7_health_59 (by decide) ?_
        refine k_iast hx hb hG (hw.st hbi) hS (MA.i (mk_st hbi)) (show vp_in (nI 5) 6 from vp_in_nI (by decide) (by decide)) dX7_health_60 (fun H1 locs hP1 z1 oq1 hS => ?_)
        rw [show Int32.toNatClampNeg 5 = 5 from clI 5 (by decide)] at hP1
        have hw := hw.setI hA (mk_st hbi) (ml_st hbi) hP1 oq1
        refine lv_iload_n hx hb dX7_health_61 rfl (lv_at hl 0 rfl) ?_
        exact ke_uz (b := true) hx hb hr hlk hS dX7_health_62 rfl (Or.inr (Or.inr ⟨by unfold kOne; rw [if_pos c_6], i, hi, rfl, (by rw [if_pos c_35]; rfl), hw⟩))
      · obtain rfl := bI_t c_52
        refine lv_iconst (v := 1) hx hb dX7_health_55 (by decide) ?_
        refine lv_goto (tgt := 60) hx hb dX7_health_56 (by decide) ?_
        refine k_iast hx hb hG (hw.st hbi) hS (MA.i (mk_st hbi)) (show vp_in (nI 5) 6 from vp_in_nI (by decide) (by decide)) dX7_health_60 (fun H1 locs hP1 z1 oq1 hS => ?_)
        rw [show Int32.toNatClampNeg 5 = 5 from clI 5 (by decide)] at hP1
        have hw := hw.setI hA (mk_st hbi) (ml_st hbi) hP1 oq1
        refine lv_iload_n hx hb dX7_health_61 rfl (lv_at hl 0 rfl) ?_
        exact ke_uz (b := true) hx hb hr hlk hS dX7_health_62 rfl (Or.inr (Or.inr ⟨by unfold kOne; rw [if_pos c_6], i, hi, rfl, (by rw [if_pos c_35]; rfl), hw⟩))
set_option maxHeartbeats 4000000 in
set_option maxRecDepth 100000 in
theorem c_X7_meanError (l : Launch) (D : va_G) (cy : Nat → ClassId) (md : Nat → Nat) (N : Nat → Nat → Int32) (co su : Int64) (hA : MI md) (ns nt nr : Nat) (hL : LB ns nt nr) (hN : MN N ns nt nr) (x : Int32) : Met l yX7_meanError [.code yX7_meanError cX7_meanError 2 (some .double)] ({ frames := 2, cells := 0, slots := 0, locals := 43 } : Room) (PC D cy [.ref (md 0), .int x] (fun H => MW D cy md N co su H)) (UQd (MA md) (mOutD D cy md N co su (kOne nr x) (fun r H => ∃ i, i < nr ∧ x = nI i ∧ r = mMean (thr N 0 (40 + i)) ∧ MW D cy md (thr N 0) co su H))) 0 0 (MA md) := by
  refine k_body (by decide +kernel) (Nat.le_of_ble_eq_true rfl) ?_
  intro p e s m below meth c ls hx hb hml hown hr hlk hmn hl hG hI
  have hml9 : c.maxLocals = 2 := hml.trans hl.1
  have hl : lv_has ls 2 [(0, .ref (md 0)), (1, .int x)] := hl
  have hS : va_S (MA md) s.heap s.heap [] := va_S.rf
  have hw := hI
  refine lv_aload_n hx hb dX7_meanError_0 rfl (lv_at hl 0 rfl) ?_
  refine lv_aload_n hx hb dX7_meanError_1 rfl (lv_at hl 0 rfl) ?_
  refine lv_iload_n hx hb dX7_meanError_2 rfl (lv_at hl 1 rfl) ?_
  refine kc_i (kr_V (As := [.int x]) (rest := [.ref (md 0)]) hx hb hml hown hG (c_X7_isReceiver l D cy md N co su x) cf_X7_isReceiver wM_X7_115 hw.o rfl hw ⟨rfl, rfl, by decide, by decide⟩ rfl rfl (Nat.le_of_ble_eq_true rfl) ⟨Nat.le_of_ble_eq_true rfl, Nat.le_of_ble_eq_true rfl⟩ dX7_meanError_3) ?_
  refine lv_if_eq (tgt := 13) hx hb dX7_meanError_6 (by decide) (fun c_6 => ?_) (fun c_6 => ?_)
  · have c_6 : ¬ bI (pOut x 0 (nI nr - 1)) = 0 := by have h := mIs_f c_6; rw [show N 0 10 = nI nr from hN.2.2] at h; exact h
    refine lv_iconst (v := 1) hx hb dX7_meanError_13 (by decide) ?_
    refine k_put (ci := 7) (C := RX7) (T := TX7) (N := 20) (v := .int 1) hx hb hown hG rfl kin_X7 tyX7 tyX7_ok nmX7 hw.o hS MA.o 0 (by decide) wF_X7_41 rfl rfl rfl (Nat.le_of_ble_eq_true rfl) dX7_meanError_14 (fun H1 locs hP1 z1 oq1 hS => ?_)
    have hw := hw.setO (r := (upd (N 0) 0 1)) (c' := co) (s' := su) hA hP1 oq1
    have hw : MW D cy md (thr N 1) co su H1 := hw
    refine lv_aload_n hx hb dX7_meanError_17 rfl (lv_at hl 0 rfl) ?_
    refine k_get (ci := 7) (C := RX7) (T := TX7) (N := 20) (v := .int ((thr N 1 0) 0)) hx hb hown hG rfl kin_X7 hw.o 0 (by decide) wF_X7_41 rfl dX7_meanError_18 ?_
    refine lv_if_gt (tgt := 36) hx hb dX7_meanError_21 (by decide) (fun _ => ?_) (fun q9 => absurd (show (0 : Int32) < 1 by decide) q9)
    refine lv_dconst0 hx hb dX7_meanError_36 ?_
    exact ke_ud hx hb hr hlk hS dX7_meanError_37 (Or.inl ⟨by unfold kOne; rw [if_neg c_6], hw⟩)
  · have c_6 : bI (pOut x 0 (nI nr - 1)) = 0 := by have h := mIs_t c_6; rw [show N 0 10 = nI nr from hN.2.2] at h; exact h
    obtain ⟨i, hi, ei⟩ := pOut_f (Nat.le_trans hL.2.2 (by decide)) c_6
    subst ei
    have hbi := Nat.lt_of_lt_of_le hi hL.2.2
    refine lv_iconst (v := 0) hx hb dX7_meanError_9 (by decide) ?_
    refine lv_goto (tgt := 14) hx hb dX7_meanError_10 (by decide) ?_
    refine k_put (ci := 7) (C := RX7) (T := TX7) (N := 20) (v := .int 0) hx hb hown hG rfl kin_X7 tyX7 tyX7_ok nmX7 hw.o hS MA.o 0 (by decide) wF_X7_41 rfl rfl rfl (Nat.le_of_ble_eq_true rfl) dX7_meanError_14 (fun H1 locs hP1 z1 oq1 hS => ?_)
    have hw := hw.setO (r := (upd (N 0) 0 0)) (c' := co) (s' := su) hA hP1 oq1
    have hw : MW D cy md (thr N 0) co su H1 := hw
    refine lv_aload_n hx hb dX7_meanError_17 rfl (lv_at hl 0 rfl) ?_
    refine k_get (ci := 7) (C := RX7) (T := TX7) (N := 20) (v := .int ((thr N 0 0) 0)) hx hb hown hG rfl kin_X7 hw.o 0 (by decide) wF_X7_41 rfl dX7_meanError_18 ?_
    refine lv_if_gt (tgt := 36) hx hb dX7_meanError_21 (by decide) (fun q9 => absurd q9 (show ¬ (0 : Int32) < 0 by decide)) (fun _ => ?_)
    refine lv_aload_n hx hb dX7_meanError_24 rfl (lv_at hl 0 rfl) ?_
    refine k_get (ci := 7) (C := RX7) (T := TX7) (N := 20) (v := .ref (md 4)) hx hb hown hG rfl kin_X7 hw.o 6 (by decide) wF_X7_20 rfl dX7_meanError_25 ?_
    refine lv_iload_n hx hb dX7_meanError_28 rfl (lv_at hl 1 rfl) ?_
    refine k_ald2 (v := (md (40 + i))) hx hb hG 5 rfl hw.a4 (vp_in_nI (n := i) hbi (by decide)) (mo_rc hbi) dX7_meanError_29 ?_
    refine lv_bipush (v := 20) hx hb dX7_meanError_30 (by decide) ?_
    refine k_iald (v := ((thr N 0 (40 + i)) 20)) hx hb hG (hw.rc hbi) (show vp_in (nI 20) 22 from vp_in_nI (by decide) (by decide)) (congrArg (thr N 0 (40 + i)) (clI 20 (by decide))) dX7_meanError_32 ?_
    refine lv_if_ne (tgt := 38) hx hb dX7_meanError_33 (by decide) (fun c_33 => ?_) (fun c_33 => ?_)
    · refine lv_aload_n hx hb dX7_meanError_38 rfl (lv_at hl 0 rfl) ?_
      refine k_get (ci := 7) (C := RX7) (T := TX7) (N := 20) (v := .ref (md 4)) hx hb hown hG rfl kin_X7 hw.o 6 (by decide) wF_X7_20 rfl dX7_meanError_39 ?_
      refine lv_iload_n hx hb dX7_meanError_42 rfl (lv_at hl 1 rfl) ?_
      refine k_ald2 (v := (md (40 + i))) hx hb hG 5 rfl hw.a4 (vp_in_nI (n := i) hbi (by decide)) (mo_rc hbi) dX7_meanError_43 ?_
      refine lv_bipush (v := 21) hx hb dX7_meanError_44 (by decide) ?_
      refine k_iald (v := ((thr N 0 (40 + i)) 21)) hx hb hG (hw.rc hbi) (show vp_in (nI 21) 22 from vp_in_nI (by decide) (by decide)) (congrArg (thr N 0 (40 + i)) (clI 21 (by decide))) dX7_meanError_46 ?_
      refine lv_i2d hx hb dX7_meanError_47 ?_
      refine lv_aload_n hx hb dX7_meanError_48 rfl (lv_at hl 0 rfl) ?_
      refine k_get (ci := 7) (C := RX7) (T := TX7) (N := 20) (v := .ref (md 4)) hx hb hown hG rfl kin_X7 hw.o 6 (by decide) wF_X7_20 rfl dX7_meanError_49 ?_
      refine lv_iload_n hx hb dX7_meanError_52 rfl (lv_at hl 1 rfl) ?_
      refine k_ald2 (v := (md (40 + i))) hx hb hG 5 rfl hw.a4 (vp_in_nI (n := i) hbi (by decide)) (mo_rc hbi) dX7_meanError_53 ?_
      refine lv_bipush (v := 20) hx hb dX7_meanError_54 (by decide) ?_
      refine k_iald (v := ((thr N 0 (40 + i)) 20)) hx hb hG (hw.rc hbi) (show vp_in (nI 20) 22 from vp_in_nI (by decide) (by decide)) (congrArg (thr N 0 (40 + i)) (clI 20 (by decide))) dX7_meanError_56 ?_
      refine lv_i2d hx hb dX7_meanError_57 ?_
      refine lv_ddiv hx hb dX7_meanError_58 (ddiv_n64 _ _ c_33) ?_
      exact ke_ud hx hb hr hlk hS dX7_meanError_59 (Or.inr ⟨by unfold kOne; rw [if_pos c_6], i, hi, rfl, (by unfold mMean; rw [if_neg c_33]), hw⟩)
    · refine lv_dconst0 hx hb dX7_meanError_36 ?_
      exact ke_ud hx hb hr hlk hS dX7_meanError_37 (Or.inr ⟨by unfold kOne; rw [if_pos c_6], i, hi, rfl, (by unfold mMean; rw [if_pos c_33]), hw⟩)
