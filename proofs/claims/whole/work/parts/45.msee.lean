set_option maxHeartbeats 4000000 in
set_option maxRecDepth 100000 in
theorem c_X7_see (l : Launch) (D : va_G) (cy : Nat → ClassId) (md : Nat → Nat) (N : Nat → Nat → Int32) (co su : Int64) (hA : MI md) (i j : Nat) (hi : i < 3) (hj : j < 8) (nx : Int32) : Met l yX7_see [.code yX7_see cX7_see 6 none] ({ frames := 5, cells := 0, slots := 0, locals := 116 } : Room) (PC D cy [.ref (md 0), .int (nI i), .int (nI j), .int nx] (fun H => MW D cy md N co su H)) (UQv (MA md) (fun H => MW D cy md (mset N (60 + 8 * i + j) (mSee N i j nx)) co su H)) 0 0 (MA md) := by
  refine k_body (by decide +kernel) (Nat.le_of_ble_eq_true rfl) ?_
  intro p e s m below meth c ls hx hb hml hown hr hlk hmn hl hG hI
  have hml9 : c.maxLocals = 6 := hml.trans hl.1
  have hl : lv_has ls 6 [(0, .ref (md 0)), (1, .int (nI i)), (2, .int (nI j)), (3, .int nx)] := hl
  have hS : va_S (MA md) s.heap s.heap [] := va_S.rf
  have hw := hI
  refine lv_aload_n hx hb dX7_see_0 rfl (lv_at hl 0 rfl) ?_
  refine k_get (ci := 7) (C := RX7) (T := TX7) (N := 20) (v := .ref (md 5)) hx hb hown hG rfl kin_X7 hw.o 7 (by decide) wF_X7_25 rfl dX7_see_1 ?_
  refine lv_iload_n hx hb dX7_see_4 rfl (lv_at hl 1 rfl) ?_
  refine k_ald2 (v := (md (50 + i))) hx hb hG 6 rfl hw.a5 (vp_in_nI (n := i) hi (by decide)) (mo_ro hi) dX7_see_5 ?_
  refine lv_iload_n hx hb dX7_see_6 rfl (lv_at hl 2 rfl) ?_
  refine k_ald2 (v := (md (60 + 8 * i + j))) hx hb hG 5 rfl (hw.ro hi) (vp_in_nI (n := j) hj (by decide)) (mo_rw (i := i) hj) dX7_see_7 ?_
  refine lv_astore (lv' := [(4, .ref (md (60 + 8 * i + j))), (0, .ref (md 0)), (1, .int (nI i)), (2, .int (nI j)), (3, .int nx)]) hx hb dX7_see_8 hl (by decide) rfl (fun ls hl => ?_)
  have hml : c.maxLocals = ls.size := hml9.trans hl.1.symm
  refine lv_iload_n hx hb dX7_see_10 rfl (lv_at hl 4 rfl) ?_
  refine lv_if_eq (tgt := 27) hx hb dX7_see_11 (by decide) (fun c_11 => ?_) (fun c_11 => ?_)
  · refine lv_iconst (v := 0) hx hb dX7_see_27 (by decide) ?_
    refine lv_istore (lv' := [(5, .int 0), (4, .ref (md (60 + 8 * i + j))), (0, .ref (md 0)), (1, .int (nI i)), (2, .int (nI j)), (3, .int nx)]) hx hb dX7_see_28 hl (by decide) rfl (fun ls hl => ?_)
    have hml : c.maxLocals = ls.size := hml9.trans hl.1.symm
    refine lv_aload hx hb dX7_see_30 (lv_at hl 1 rfl) ?_
    refine lv_bipush (v := 11) hx hb dX7_see_32 (by decide) ?_
    refine lv_aload_n hx hb dX7_see_34 rfl (lv_at hl 2 rfl) ?_
    refine lv_iload_n hx hb dX7_see_35 rfl (lv_at hl 3 rfl) ?_
    refine lv_iload_n hx hb dX7_see_36 rfl (lv_at hl 4 rfl) ?_
    refine lv_iconst (v := 0) hx hb dX7_see_37 (by decide) ?_
    refine kc_i (kr_V (As := [.int (nI i), .int (nI j), .int 0]) (rest := [.int 11, .ref (md (60 + 8 * i + j))]) hx hb hml hown hG (c_X7_sees l D cy md N co su i j hi hj 0) cf_X7_sees wM_X7_82 hw.o rfl hw ⟨rfl, rfl, by decide, by decide⟩ rfl rfl (Nat.le_of_ble_eq_true rfl) ⟨Nat.le_of_ble_eq_true rfl, Nat.le_of_ble_eq_true rfl⟩ dX7_see_38) ?_
    refine lv_if_eq (tgt := 48) hx hb dX7_see_41 (by decide) (fun c_41 => ?_) (fun c_41 => ?_)
    · refine lv_iconst (v := 0) hx hb dX7_see_48 (by decide) ?_
      refine k_iast hx hb hG (hw.rw hi hj) hS (MA.i (mk_rw hi hj)) (show vp_in (nI 11) 12 from vp_in_nI (by decide) (by decide)) dX7_see_49 (fun H1 locs hP1 z1 oq1 hS => ?_)
      rw [show Int32.toNatClampNeg 11 = 11 from clI 11 (by decide)] at hP1
      have hw := hw.setI hA (mk_rw hi hj) (ml_rw hi hj) hP1 oq1
      refine lv_aload hx hb dX7_see_50 (lv_at hl 1 rfl) ?_
      refine lv_iconst (v := 5) hx hb dX7_see_52 (by decide) ?_
      refine lv_iconst (v := 0) hx hb dX7_see_53 (by decide) ?_
      refine k_iast hx hb hG (show va_P D vwCl [(md (60 + 8 * i + j), .inl (cy 0, 12, .inl (upd (N (60 + 8 * i + j)) 11 0)))] _ from by have h := hw.rw hi hj; rw [mset_s] at h; exact h) hS (MA.i (mk_rw hi hj)) (show vp_in (nI 5) 12 from vp_in_nI (by decide) (by decide)) dX7_see_54 (fun H1 locs hP1 z1 oq1 hS => ?_)
      rw [show Int32.toNatClampNeg 5 = 5 from clI 5 (by decide)] at hP1
      have hw := hw.setI hA (mk_rw hi hj) (ml_rw hi hj) hP1 oq1
      rw [mset_mset] at hw
      refine lv_aload hx hb dX7_see_55 (lv_at hl 1 rfl) ?_
      refine lv_bipush (v := 6) hx hb dX7_see_57 (by decide) ?_
      refine lv_iconst (v := 0) hx hb dX7_see_59 (by decide) ?_
      refine k_iast hx hb hG (show va_P D vwCl [(md (60 + 8 * i + j), .inl (cy 0, 12, .inl (upd (upd (N (60 + 8 * i + j)) 11 0) 5 0)))] _ from by have h := hw.rw hi hj; rw [mset_s] at h; exact h) hS (MA.i (mk_rw hi hj)) (show vp_in (nI 6) 12 from vp_in_nI (by decide) (by decide)) dX7_see_60 (fun H1 locs hP1 z1 oq1 hS => ?_)
      rw [show Int32.toNatClampNeg 6 = 6 from clI 6 (by decide)] at hP1
      have hw := hw.setI hA (mk_rw hi hj) (ml_rw hi hj) hP1 oq1
      rw [mset_mset] at hw
      refine lv_aload hx hb dX7_see_61 (lv_at hl 1 rfl) ?_
      refine lv_bipush (v := 7) hx hb dX7_see_63 (by decide) ?_
      refine lv_iconst (v := 0) hx hb dX7_see_65 (by decide) ?_
      refine k_iast hx hb hG (show va_P D vwCl [(md (60 + 8 * i + j), .inl (cy 0, 12, .inl (upd (upd (upd (N (60 + 8 * i + j)) 11 0) 5 0) 6 0)))] _ from by have h := hw.rw hi hj; rw [mset_s] at h; exact h) hS (MA.i (mk_rw hi hj)) (show vp_in (nI 7) 12 from vp_in_nI (by decide) (by decide)) dX7_see_66 (fun H1 locs hP1 z1 oq1 hS => ?_)
      rw [show Int32.toNatClampNeg 7 = 7 from clI 7 (by decide)] at hP1
      have hw := hw.setI hA (mk_rw hi hj) (ml_rw hi hj) hP1 oq1
      rw [mset_mset] at hw
      refine lv_aload hx hb dX7_see_67 (lv_at hl 1 rfl) ?_
      refine lv_bipush (v := 11) hx hb dX7_see_69 (by decide) ?_
      refine k_iald (v := 0) hx hb hG (show va_P D vwCl [(md (60 + 8 * i + j), .inl (cy 0, 12, .inl (upd (upd (upd (upd (N (60 + 8 * i + j)) 11 0) 5 0) 6 0) 7 0)))] _ from by have h := hw.rw hi hj; rw [mset_s] at h; exact h) (show vp_in (nI 11) 12 from vp_in_nI (by decide) (by decide)) (congrArg (upd (upd (upd (upd (N (60 + 8 * i + j)) 11 0) 5 0) 6 0) 7 0) (clI 11 (by decide))) dX7_see_71 ?_
      refine lv_if_ne (tgt := 76) hx hb dX7_see_72 (by decide) (fun q9 => absurd (show (0 : Int32) = 0 by decide) q9) (fun _ => ?_)
      exact ke_uv hx hb hr hlk hS dX7_see_75 (by unfold mSee; rw [if_pos c_41]; exact hw)
    · refine lv_iconst (v := 1) hx hb dX7_see_44 (by decide) ?_
      refine lv_goto (tgt := 49) hx hb dX7_see_45 (by decide) ?_
      refine k_iast hx hb hG (hw.rw hi hj) hS (MA.i (mk_rw hi hj)) (show vp_in (nI 11) 12 from vp_in_nI (by decide) (by decide)) dX7_see_49 (fun H1 locs hP1 z1 oq1 hS => ?_)
      rw [show Int32.toNatClampNeg 11 = 11 from clI 11 (by decide)] at hP1
      have hw := hw.setI hA (mk_rw hi hj) (ml_rw hi hj) hP1 oq1
      refine lv_aload hx hb dX7_see_50 (lv_at hl 1 rfl) ?_
      refine lv_iconst (v := 5) hx hb dX7_see_52 (by decide) ?_
      refine lv_iconst (v := 0) hx hb dX7_see_53 (by decide) ?_
      refine k_iast hx hb hG (show va_P D vwCl [(md (60 + 8 * i + j), .inl (cy 0, 12, .inl (upd (N (60 + 8 * i + j)) 11 1)))] _ from by have h := hw.rw hi hj; rw [mset_s] at h; exact h) hS (MA.i (mk_rw hi hj)) (show vp_in (nI 5) 12 from vp_in_nI (by decide) (by decide)) dX7_see_54 (fun H1 locs hP1 z1 oq1 hS => ?_)
      rw [show Int32.toNatClampNeg 5 = 5 from clI 5 (by decide)] at hP1
      have hw := hw.setI hA (mk_rw hi hj) (ml_rw hi hj) hP1 oq1
      rw [mset_mset] at hw
      refine lv_aload hx hb dX7_see_55 (lv_at hl 1 rfl) ?_
      refine lv_bipush (v := 6) hx hb dX7_see_57 (by decide) ?_
      refine lv_iconst (v := 0) hx hb dX7_see_59 (by decide) ?_
      refine k_iast hx hb hG (show va_P D vwCl [(md (60 + 8 * i + j), .inl (cy 0, 12, .inl (upd (upd (N (60 + 8 * i + j)) 11 1) 5 0)))] _ from by have h := hw.rw hi hj; rw [mset_s] at h; exact h) hS (MA.i (mk_rw hi hj)) (show vp_in (nI 6) 12 from vp_in_nI (by decide) (by decide)) dX7_see_60 (fun H1 locs hP1 z1 oq1 hS => ?_)
      rw [show Int32.toNatClampNeg 6 = 6 from clI 6 (by decide)] at hP1
      have hw := hw.setI hA (mk_rw hi hj) (ml_rw hi hj) hP1 oq1
      rw [mset_mset] at hw
      refine lv_aload hx hb dX7_see_61 (lv_at hl 1 rfl) ?_
      refine lv_bipush (v := 7) hx hb dX7_see_63 (by decide) ?_
      refine lv_iconst (v := 0) hx hb dX7_see_65 (by decide) ?_
      refine k_iast hx hb hG (show va_P D vwCl [(md (60 + 8 * i + j), .inl (cy 0, 12, .inl (upd (upd (upd (N (60 + 8 * i + j)) 11 1) 5 0) 6 0)))] _ from by have h := hw.rw hi hj; rw [mset_s] at h; exact h) hS (MA.i (mk_rw hi hj)) (show vp_in (nI 7) 12 from vp_in_nI (by decide) (by decide)) dX7_see_66 (fun H1 locs hP1 z1 oq1 hS => ?_)
      rw [show Int32.toNatClampNeg 7 = 7 from clI 7 (by decide)] at hP1
      have hw := hw.setI hA (mk_rw hi hj) (ml_rw hi hj) hP1 oq1
      rw [mset_mset] at hw
      refine lv_aload hx hb dX7_see_67 (lv_at hl 1 rfl) ?_
      refine lv_bipush (v := 11) hx hb dX7_see_69 (by decide) ?_
      refine k_iald (v := 1) hx hb hG (show va_P D vwCl [(md (60 + 8 * i + j), .inl (cy 0, 12, .inl (upd (upd (upd (upd (N (60 + 8 * i + j)) 11 1) 5 0) 6 0) 7 0)))] _ from by have h := hw.rw hi hj; rw [mset_s] at h; exact h) (show vp_in (nI 11) 12 from vp_in_nI (by decide) (by decide)) (congrArg (upd (upd (upd (upd (N (60 + 8 * i + j)) 11 1) 5 0) 6 0) 7 0) (clI 11 (by decide))) dX7_see_71 ?_
      refine lv_if_ne (tgt := 76) hx hb dX7_see_72 (by decide) (fun _ => ?_) (fun q9 => absurd q9 (show ¬ (1 : Int32) = 0 by decide))
      refine lv_aload hx hb dX7_see_76 (lv_at hl 1 rfl) ?_
      refine lv_bipush (v := 9) hx hb dX7_see_78 (by decide) ?_
      refine lv_aload hx hb dX7_see_80 (lv_at hl 1 rfl) ?_
      refine lv_bipush (v := 8) hx hb dX7_see_82 (by decide) ?_
      refine k_iald (v := ((N (60 + 8 * i + j)) 8)) hx hb hG (show va_P D vwCl [(md (60 + 8 * i + j), .inl (cy 0, 12, .inl (upd (upd (upd (upd (N (60 + 8 * i + j)) 11 1) 5 0) 6 0) 7 0)))] _ from by have h := hw.rw hi hj; rw [mset_s] at h; exact h) (show vp_in (nI 8) 12 from vp_in_nI (by decide) (by decide)) (congrArg (upd (upd (upd (upd (N (60 + 8 * i + j)) 11 1) 5 0) 6 0) 7 0) (clI 8 (by decide))) dX7_see_84 ?_
      refine k_iast hx hb hG (show va_P D vwCl [(md (60 + 8 * i + j), .inl (cy 0, 12, .inl (upd (upd (upd (upd (N (60 + 8 * i + j)) 11 1) 5 0) 6 0) 7 0)))] _ from by have h := hw.rw hi hj; rw [mset_s] at h; exact h) hS (MA.i (mk_rw hi hj)) (show vp_in (nI 9) 12 from vp_in_nI (by decide) (by decide)) dX7_see_85 (fun H1 locs hP1 z1 oq1 hS => ?_)
      rw [show Int32.toNatClampNeg 9 = 9 from clI 9 (by decide)] at hP1
      have hw := hw.setI hA (mk_rw hi hj) (ml_rw hi hj) hP1 oq1
      rw [mset_mset] at hw
      refine lv_aload hx hb dX7_see_86 (lv_at hl 1 rfl) ?_
      refine lv_bipush (v := 8) hx hb dX7_see_88 (by decide) ?_
      refine lv_aload hx hb dX7_see_90 (lv_at hl 1 rfl) ?_
      refine lv_iconst (v := 3) hx hb dX7_see_92 (by decide) ?_
      refine k_iald (v := ((N (60 + 8 * i + j)) 3)) hx hb hG (show va_P D vwCl [(md (60 + 8 * i + j), .inl (cy 0, 12, .inl (upd (upd (upd (upd (upd (N (60 + 8 * i + j)) 11 1) 5 0) 6 0) 7 0) 9 ((N (60 + 8 * i + j)) 8))))] _ from by have h := hw.rw hi hj; rw [mset_s] at h; exact h) (show vp_in (nI 3) 12 from vp_in_nI (by decide) (by decide)) (congrArg (upd (upd (upd (upd (upd (N (60 + 8 * i + j)) 11 1) 5 0) 6 0) 7 0) 9 ((N (60 + 8 * i + j)) 8)) (clI 3 (by decide))) dX7_see_93 ?_
      refine k_iast hx hb hG (show va_P D vwCl [(md (60 + 8 * i + j), .inl (cy 0, 12, .inl (upd (upd (upd (upd (upd (N (60 + 8 * i + j)) 11 1) 5 0) 6 0) 7 0) 9 ((N (60 + 8 * i + j)) 8))))] _ from by have h := hw.rw hi hj; rw [mset_s] at h; exact h) hS (MA.i (mk_rw hi hj)) (show vp_in (nI 8) 12 from vp_in_nI (by decide) (by decide)) dX7_see_94 (fun H1 locs hP1 z1 oq1 hS => ?_)
      rw [show Int32.toNatClampNeg 8 = 8 from clI 8 (by decide)] at hP1
      have hw := hw.setI hA (mk_rw hi hj) (ml_rw hi hj) hP1 oq1
      rw [mset_mset] at hw
      refine lv_aload hx hb dX7_see_95 (lv_at hl 1 rfl) ?_
      refine lv_iconst (v := 4) hx hb dX7_see_97 (by decide) ?_
      refine lv_iload hx hb dX7_see_98 (lv_at hl 0 rfl) ?_
      refine lv_if_eq (tgt := 112) hx hb dX7_see_100 (by decide) (fun _ => ?_) (fun q9 => absurd (show (0 : Int32) = 0 by decide) q9)
      refine lv_iconst (v := 1) hx hb dX7_see_112 (by decide) ?_
      refine k_iast hx hb hG (show va_P D vwCl [(md (60 + 8 * i + j), .inl (cy 0, 12, .inl (upd (upd (upd (upd (upd (upd (N (60 + 8 * i + j)) 11 1) 5 0) 6 0) 7 0) 9 ((N (60 + 8 * i + j)) 8)) 8 ((N (60 + 8 * i + j)) 3))))] _ from by have h := hw.rw hi hj; rw [mset_s] at h; exact h) hS (MA.i (mk_rw hi hj)) (show vp_in (nI 4) 12 from vp_in_nI (by decide) (by decide)) dX7_see_113 (fun H1 locs hP1 z1 oq1 hS => ?_)
      rw [show Int32.toNatClampNeg 4 = 4 from clI 4 (by decide)] at hP1
      have hw := hw.setI hA (mk_rw hi hj) (ml_rw hi hj) hP1 oq1
      rw [mset_mset] at hw
      refine lv_aload hx hb dX7_see_114 (lv_at hl 1 rfl) ?_
      refine lv_iconst (v := 0) hx hb dX7_see_116 (by decide) ?_
      refine lv_aload_n hx hb dX7_see_117 rfl (lv_at hl 2 rfl) ?_
      refine lv_iload_n hx hb dX7_see_118 rfl (lv_at hl 3 rfl) ?_
      refine lv_iload_n hx hb dX7_see_119 rfl (lv_at hl 4 rfl) ?_
      refine kc_i (kr_V (As := [.int (nI i), .int (nI j)]) (rest := [.int 0, .ref (md (60 + 8 * i + j))]) hx hb hml hown hG (c_X7_codeOf l D cy md (mset N (60 + 8 * i + j) (upd (upd (upd (upd (upd (upd (upd (N (60 + 8 * i + j)) 11 1) 5 0) 6 0) 7 0) 9 ((N (60 + 8 * i + j)) 8)) 8 ((N (60 + 8 * i + j)) 3)) 4 1)) co su i j hi hj) cf_X7_codeOf wM_X7_170 hw.o rfl hw ⟨rfl, rfl, by decide, by decide⟩ rfl rfl (Nat.le_of_ble_eq_true rfl) ⟨Nat.le_of_ble_eq_true rfl, Nat.le_of_ble_eq_true rfl⟩ dX7_see_120) ?_
      refine lv_topi (fun cd ecd => ?_)
      rw [mset_n (show (0 : Nat) ≠ 60 + 8 * i + j by omega), mset_n (show (40 + i : Nat) ≠ 60 + 8 * i + j by omega), mset_n (show (10 + j : Nat) ≠ 60 + 8 * i + j by omega)] at ecd
      refine k_iast hx hb hG (show va_P D vwCl [(md (60 + 8 * i + j), .inl (cy 0, 12, .inl (upd (upd (upd (upd (upd (upd (upd (N (60 + 8 * i + j)) 11 1) 5 0) 6 0) 7 0) 9 ((N (60 + 8 * i + j)) 8)) 8 ((N (60 + 8 * i + j)) 3)) 4 1)))] _ from by have h := hw.rw hi hj; rw [mset_s] at h; exact h) hS (MA.i (mk_rw hi hj)) (show vp_in (nI 0) 12 from vp_in_nI (by decide) (by decide)) dX7_see_123 (fun H1 locs hP1 z1 oq1 hS => ?_)
      rw [show Int32.toNatClampNeg 0 = 0 from clI 0 (by decide)] at hP1
      have hw := hw.setI hA (mk_rw hi hj) (ml_rw hi hj) hP1 oq1
      rw [mset_mset] at hw
      refine lv_aload hx hb dX7_see_124 (lv_at hl 1 rfl) ?_
      refine lv_iconst (v := 1) hx hb dX7_see_126 (by decide) ?_
      refine lv_aload_n hx hb dX7_see_127 rfl (lv_at hl 2 rfl) ?_
      refine lv_iload_n hx hb dX7_see_128 rfl (lv_at hl 3 rfl) ?_
      refine lv_iload_n hx hb dX7_see_129 rfl (lv_at hl 4 rfl) ?_
      refine kc_i (kr_V (As := [.int (nI i), .int (nI j)]) (rest := [.int 1, .ref (md (60 + 8 * i + j))]) hx hb hml hown hG (c_X7_trueOf l D cy md (mset N (60 + 8 * i + j) (upd (upd (upd (upd (upd (upd (upd (upd (N (60 + 8 * i + j)) 11 1) 5 0) 6 0) 7 0) 9 ((N (60 + 8 * i + j)) 8)) 8 ((N (60 + 8 * i + j)) 3)) 4 1) 0 cd)) co su i j hi hj) cf_X7_trueOf wM_X7_134 hw.o rfl hw ⟨rfl, rfl, by decide, by decide⟩ rfl rfl (Nat.le_of_ble_eq_true rfl) ⟨Nat.le_of_ble_eq_true rfl, Nat.le_of_ble_eq_true rfl⟩ dX7_see_130) ?_
      refine lv_topi (fun tr etr => ?_)
      rw [mset_n (show (40 + i : Nat) ≠ 60 + 8 * i + j by omega), mset_n (show (10 + j : Nat) ≠ 60 + 8 * i + j by omega)] at etr
      refine lv_bipush (v := 10) hx hb dX7_see_133 (by decide) ?_
      refine kc_i (kr_S (As := [.int tr, .int 10]) (rest := [.int 1, .ref (md (60 + 8 * i + j))]) hx hb hml hown hG (c_J9_floorMod_7cf53 l D cy tr 10 (by decide)) cf_J9_floorMod_7cf53 wM_X7_54 trivial ⟨rfl, rfl, by decide, by decide⟩ rfl rfl (Nat.le_of_ble_eq_true rfl) ⟨Nat.le_of_ble_eq_true rfl, Nat.le_of_ble_eq_true rfl⟩ dX7_see_135) ?_
      refine lv_topi (fun wv ewv0 => ?_)
      refine k_iast hx hb hG (show va_P D vwCl [(md (60 + 8 * i + j), .inl (cy 0, 12, .inl (upd (upd (upd (upd (upd (upd (upd (upd (N (60 + 8 * i + j)) 11 1) 5 0) 6 0) 7 0) 9 ((N (60 + 8 * i + j)) 8)) 8 ((N (60 + 8 * i + j)) 3)) 4 1) 0 cd)))] _ from by have h := hw.rw hi hj; rw [mset_s] at h; exact h) hS (MA.i (mk_rw hi hj)) (show vp_in (nI 1) 12 from vp_in_nI (by decide) (by decide)) dX7_see_138 (fun H1 locs hP1 z1 oq1 hS => ?_)
      rw [show Int32.toNatClampNeg 1 = 1 from clI 1 (by decide)] at hP1
      have hw := hw.setI hA (mk_rw hi hj) (ml_rw hi hj) hP1 oq1
      rw [mset_mset] at hw
      have ewv : wv = pFMod (mTrue (N (40 + i)) (N (10 + j))) 10 := by rw [ewv0, etr]
      refine lv_aload hx hb dX7_see_139 (lv_at hl 1 rfl) ?_
      refine lv_iconst (v := 2) hx hb dX7_see_141 (by decide) ?_
      refine lv_aload hx hb dX7_see_142 (lv_at hl 1 rfl) ?_
      refine lv_iconst (v := 0) hx hb dX7_see_144 (by decide) ?_
      refine k_iald (v := cd) hx hb hG (show va_P D vwCl [(md (60 + 8 * i + j), .inl (cy 0, 12, .inl (upd (upd (upd (upd (upd (upd (upd (upd (upd (N (60 + 8 * i + j)) 11 1) 5 0) 6 0) 7 0) 9 ((N (60 + 8 * i + j)) 8)) 8 ((N (60 + 8 * i + j)) 3)) 4 1) 0 cd) 1 wv)))] _ from by have h := hw.rw hi hj; rw [mset_s] at h; exact h) (show vp_in (nI 0) 12 from vp_in_nI (by decide) (by decide)) (congrArg (upd (upd (upd (upd (upd (upd (upd (upd (upd (N (60 + 8 * i + j)) 11 1) 5 0) 6 0) 7 0) 9 ((N (60 + 8 * i + j)) 8)) 8 ((N (60 + 8 * i + j)) 3)) 4 1) 0 cd) 1 wv) (clI 0 (by decide))) dX7_see_145 ?_
      refine lv_aload hx hb dX7_see_146 (lv_at hl 1 rfl) ?_
      refine lv_iconst (v := 1) hx hb dX7_see_148 (by decide) ?_
      refine k_iald (v := wv) hx hb hG (show va_P D vwCl [(md (60 + 8 * i + j), .inl (cy 0, 12, .inl (upd (upd (upd (upd (upd (upd (upd (upd (upd (N (60 + 8 * i + j)) 11 1) 5 0) 6 0) 7 0) 9 ((N (60 + 8 * i + j)) 8)) 8 ((N (60 + 8 * i + j)) 3)) 4 1) 0 cd) 1 wv)))] _ from by have h := hw.rw hi hj; rw [mset_s] at h; exact h) (show vp_in (nI 1) 12 from vp_in_nI (by decide) (by decide)) (congrArg (upd (upd (upd (upd (upd (upd (upd (upd (upd (N (60 + 8 * i + j)) 11 1) 5 0) 6 0) 7 0) 9 ((N (60 + 8 * i + j)) 8)) 8 ((N (60 + 8 * i + j)) 3)) 4 1) 0 cd) 1 wv) (clI 1 (by decide))) dX7_see_149 ?_
      refine lv_isub hx hb dX7_see_150 ?_
      refine lv_iconst (v := 5) hx hb dX7_see_151 (by decide) ?_
      refine lv_iadd hx hb dX7_see_152 ?_
      refine lv_bipush (v := 10) hx hb dX7_see_153 (by decide) ?_
      refine kc_i (kr_S (As := [.int ((cd - wv) + 5), .int 10]) (rest := [.int 2, .ref (md (60 + 8 * i + j))]) hx hb hml hown hG (c_J9_floorDiv_7cf53 l D cy ((cd - wv) + 5) 10 (by decide)) cf_J9_floorDiv_7cf53 wM_X7_137 trivial ⟨rfl, rfl, by decide, by decide⟩ rfl rfl (Nat.le_of_ble_eq_true rfl) ⟨Nat.le_of_ble_eq_true rfl, Nat.le_of_ble_eq_true rfl⟩ dX7_see_155) ?_
      refine lv_topi (fun ct ect => ?_)
      refine k_iast hx hb hG (show va_P D vwCl [(md (60 + 8 * i + j), .inl (cy 0, 12, .inl (upd (upd (upd (upd (upd (upd (upd (upd (upd (N (60 + 8 * i + j)) 11 1) 5 0) 6 0) 7 0) 9 ((N (60 + 8 * i + j)) 8)) 8 ((N (60 + 8 * i + j)) 3)) 4 1) 0 cd) 1 wv)))] _ from by have h := hw.rw hi hj; rw [mset_s] at h; exact h) hS (MA.i (mk_rw hi hj)) (show vp_in (nI 2) 12 from vp_in_nI (by decide) (by decide)) dX7_see_158 (fun H1 locs hP1 z1 oq1 hS => ?_)
      rw [show Int32.toNatClampNeg 2 = 2 from clI 2 (by decide)] at hP1
      have hw := hw.setI hA (mk_rw hi hj) (ml_rw hi hj) hP1 oq1
      rw [mset_mset] at hw
      refine lv_aload hx hb dX7_see_159 (lv_at hl 1 rfl) ?_
      refine lv_iconst (v := 3) hx hb dX7_see_161 (by decide) ?_
      refine lv_aload hx hb dX7_see_162 (lv_at hl 1 rfl) ?_
      refine lv_iconst (v := 0) hx hb dX7_see_164 (by decide) ?_
      refine k_iald (v := cd) hx hb hG (show va_P D vwCl [(md (60 + 8 * i + j), .inl (cy 0, 12, .inl (upd (upd (upd (upd (upd (upd (upd (upd (upd (upd (N (60 + 8 * i + j)) 11 1) 5 0) 6 0) 7 0) 9 ((N (60 + 8 * i + j)) 8)) 8 ((N (60 + 8 * i + j)) 3)) 4 1) 0 cd) 1 wv) 2 ct)))] _ from by have h := hw.rw hi hj; rw [mset_s] at h; exact h) (show vp_in (nI 0) 12 from vp_in_nI (by decide) (by decide)) (congrArg (upd (upd (upd (upd (upd (upd (upd (upd (upd (upd (N (60 + 8 * i + j)) 11 1) 5 0) 6 0) 7 0) 9 ((N (60 + 8 * i + j)) 8)) 8 ((N (60 + 8 * i + j)) 3)) 4 1) 0 cd) 1 wv) 2 ct) (clI 0 (by decide))) dX7_see_165 ?_
      refine lv_aload hx hb dX7_see_166 (lv_at hl 1 rfl) ?_
      refine lv_iconst (v := 1) hx hb dX7_see_168 (by decide) ?_
      refine k_iald (v := wv) hx hb hG (show va_P D vwCl [(md (60 + 8 * i + j), .inl (cy 0, 12, .inl (upd (upd (upd (upd (upd (upd (upd (upd (upd (upd (N (60 + 8 * i + j)) 11 1) 5 0) 6 0) 7 0) 9 ((N (60 + 8 * i + j)) 8)) 8 ((N (60 + 8 * i + j)) 3)) 4 1) 0 cd) 1 wv) 2 ct)))] _ from by have h := hw.rw hi hj; rw [mset_s] at h; exact h) (show vp_in (nI 1) 12 from vp_in_nI (by decide) (by decide)) (congrArg (upd (upd (upd (upd (upd (upd (upd (upd (upd (upd (N (60 + 8 * i + j)) 11 1) 5 0) 6 0) 7 0) 9 ((N (60 + 8 * i + j)) 8)) 8 ((N (60 + 8 * i + j)) 3)) 4 1) 0 cd) 1 wv) 2 ct) (clI 1 (by decide))) dX7_see_169 ?_
      refine lv_isub hx hb dX7_see_170 ?_
      refine lv_bipush (v := 10) hx hb dX7_see_171 (by decide) ?_
      refine lv_aload hx hb dX7_see_173 (lv_at hl 1 rfl) ?_
      refine lv_iconst (v := 2) hx hb dX7_see_175 (by decide) ?_
      refine k_iald (v := ct) hx hb hG (show va_P D vwCl [(md (60 + 8 * i + j), .inl (cy 0, 12, .inl (upd (upd (upd (upd (upd (upd (upd (upd (upd (upd (N (60 + 8 * i + j)) 11 1) 5 0) 6 0) 7 0) 9 ((N (60 + 8 * i + j)) 8)) 8 ((N (60 + 8 * i + j)) 3)) 4 1) 0 cd) 1 wv) 2 ct)))] _ from by have h := hw.rw hi hj; rw [mset_s] at h; exact h) (show vp_in (nI 2) 12 from vp_in_nI (by decide) (by decide)) (congrArg (upd (upd (upd (upd (upd (upd (upd (upd (upd (upd (N (60 + 8 * i + j)) 11 1) 5 0) 6 0) 7 0) 9 ((N (60 + 8 * i + j)) 8)) 8 ((N (60 + 8 * i + j)) 3)) 4 1) 0 cd) 1 wv) 2 ct) (clI 2 (by decide))) dX7_see_176 ?_
      refine lv_imul hx hb dX7_see_177 ?_
      refine lv_isub hx hb dX7_see_178 ?_
      refine lv_topi (fun lf elf0 => ?_)
      refine k_iast hx hb hG (show va_P D vwCl [(md (60 + 8 * i + j), .inl (cy 0, 12, .inl (upd (upd (upd (upd (upd (upd (upd (upd (upd (upd (N (60 + 8 * i + j)) 11 1) 5 0) 6 0) 7 0) 9 ((N (60 + 8 * i + j)) 8)) 8 ((N (60 + 8 * i + j)) 3)) 4 1) 0 cd) 1 wv) 2 ct)))] _ from by have h := hw.rw hi hj; rw [mset_s] at h; exact h) hS (MA.i (mk_rw hi hj)) (show vp_in (nI 3) 12 from vp_in_nI (by decide) (by decide)) dX7_see_179 (fun H1 locs hP1 z1 oq1 hS => ?_)
      rw [show Int32.toNatClampNeg 3 = 3 from clI 3 (by decide)] at hP1
      have hw := hw.setI hA (mk_rw hi hj) (ml_rw hi hj) hP1 oq1
      rw [mset_mset] at hw
      have elf : lf = mLf cd wv := by rw [elf0, ect]; rfl
      have ect : ct = mCt cd wv := ect
      refine lv_aload hx hb dX7_see_180 (lv_at hl 1 rfl) ?_
      refine lv_iconst (v := 5) hx hb dX7_see_182 (by decide) ?_
      refine lv_aload hx hb dX7_see_183 (lv_at hl 1 rfl) ?_
      refine lv_iconst (v := 4) hx hb dX7_see_185 (by decide) ?_
      refine k_iald (v := 1) hx hb hG (show va_P D vwCl [(md (60 + 8 * i + j), .inl (cy 0, 12, .inl (upd (upd (upd (upd (upd (upd (upd (upd (upd (upd (upd (N (60 + 8 * i + j)) 11 1) 5 0) 6 0) 7 0) 9 ((N (60 + 8 * i + j)) 8)) 8 ((N (60 + 8 * i + j)) 3)) 4 1) 0 cd) 1 wv) 2 ct) 3 lf)))] _ from by have h := hw.rw hi hj; rw [mset_s] at h; exact h) (show vp_in (nI 4) 12 from vp_in_nI (by decide) (by decide)) (congrArg (upd (upd (upd (upd (upd (upd (upd (upd (upd (upd (upd (N (60 + 8 * i + j)) 11 1) 5 0) 6 0) 7 0) 9 ((N (60 + 8 * i + j)) 8)) 8 ((N (60 + 8 * i + j)) 3)) 4 1) 0 cd) 1 wv) 2 ct) 3 lf) (clI 4 (by decide))) dX7_see_186 ?_
      refine lv_iconst (v := 3) hx hb dX7_see_187 (by decide) ?_
      refine lv_icmp_lt (tgt := 236) hx hb dX7_see_188 (by decide) (fun c_188 => ?_) (fun c_188 => ?_)
      · refine lv_iconst (v := 0) hx hb dX7_see_236 (by decide) ?_
        refine k_iast hx hb hG (show va_P D vwCl [(md (60 + 8 * i + j), .inl (cy 0, 12, .inl (upd (upd (upd (upd (upd (upd (upd (upd (upd (upd (upd (N (60 + 8 * i + j)) 11 1) 5 0) 6 0) 7 0) 9 ((N (60 + 8 * i + j)) 8)) 8 ((N (60 + 8 * i + j)) 3)) 4 1) 0 cd) 1 wv) 2 ct) 3 lf)))] _ from by have h := hw.rw hi hj; rw [mset_s] at h; exact h) hS (MA.i (mk_rw hi hj)) (show vp_in (nI 5) 12 from vp_in_nI (by decide) (by decide)) dX7_see_237 (fun H1 locs hP1 z1 oq1 hS => ?_)
        rw [show Int32.toNatClampNeg 5 = 5 from clI 5 (by decide)] at hP1
        have hw := hw.setI hA (mk_rw hi hj) (ml_rw hi hj) hP1 oq1
        rw [mset_mset] at hw
        have ekp : mKp (N (60 + 8 * i + j)) nx = 1 := by unfold mKp; rw [if_pos c_11]
        have efx : mFx (mKp (N (60 + 8 * i + j)) nx) (mLf cd wv) (N (60 + 8 * i + j) 3) (N (60 + 8 * i + j) 8) = 0 := by rw [ekp, ← elf]; unfold mFx; rw [if_pos c_188]
        exact ke_uv hx hb hr hlk hS dX7_see_238 (by unfold mSee; rw [if_neg c_41, ← ecd, ← ewv]; unfold mSeeT; rw [efx, ekp, ← elf, ← ect]; exact hw)
      · refine lv_aload hx hb dX7_see_191 (lv_at hl 1 rfl) ?_
        refine lv_iconst (v := 3) hx hb dX7_see_193 (by decide) ?_
        refine k_iald (v := lf) hx hb hG (show va_P D vwCl [(md (60 + 8 * i + j), .inl (cy 0, 12, .inl (upd (upd (upd (upd (upd (upd (upd (upd (upd (upd (upd (N (60 + 8 * i + j)) 11 1) 5 0) 6 0) 7 0) 9 ((N (60 + 8 * i + j)) 8)) 8 ((N (60 + 8 * i + j)) 3)) 4 1) 0 cd) 1 wv) 2 ct) 3 lf)))] _ from by have h := hw.rw hi hj; rw [mset_s] at h; exact h) (show vp_in (nI 3) 12 from vp_in_nI (by decide) (by decide)) (congrArg (upd (upd (upd (upd (upd (upd (upd (upd (upd (upd (upd (N (60 + 8 * i + j)) 11 1) 5 0) 6 0) 7 0) 9 ((N (60 + 8 * i + j)) 8)) 8 ((N (60 + 8 * i + j)) 3)) 4 1) 0 cd) 1 wv) 2 ct) 3 lf) (clI 3 (by decide))) dX7_see_194 ?_
        refine lv_bipush (v := (-2)) hx hb dX7_see_195 (by decide) ?_
        refine lv_iconst (v := 2) hx hb dX7_see_197 (by decide) ?_
        refine kc_i (kr_S (As := [.int lf, .int (-2), .int 2]) (rest := [.int 5, .ref (md (60 + 8 * i + j))]) hx hb hml hown hG (c_X7_is l D cy lf (-2) 2) cf_X7_is wM_X7_86 trivial ⟨rfl, rfl, by decide, by decide⟩ rfl rfl (Nat.le_of_ble_eq_true rfl) ⟨Nat.le_of_ble_eq_true rfl, Nat.le_of_ble_eq_true rfl⟩ dX7_see_198) ?_
        refine lv_if_eq (tgt := 236) hx hb dX7_see_201 (by decide) (fun c_201 => ?_) (fun c_201 => ?_)
        · refine lv_iconst (v := 0) hx hb dX7_see_236 (by decide) ?_
          refine k_iast hx hb hG (show va_P D vwCl [(md (60 + 8 * i + j), .inl (cy 0, 12, .inl (upd (upd (upd (upd (upd (upd (upd (upd (upd (upd (upd (N (60 + 8 * i + j)) 11 1) 5 0) 6 0) 7 0) 9 ((N (60 + 8 * i + j)) 8)) 8 ((N (60 + 8 * i + j)) 3)) 4 1) 0 cd) 1 wv) 2 ct) 3 lf)))] _ from by have h := hw.rw hi hj; rw [mset_s] at h; exact h) hS (MA.i (mk_rw hi hj)) (show vp_in (nI 5) 12 from vp_in_nI (by decide) (by decide)) dX7_see_237 (fun H1 locs hP1 z1 oq1 hS => ?_)
          rw [show Int32.toNatClampNeg 5 = 5 from clI 5 (by decide)] at hP1
          have hw := hw.setI hA (mk_rw hi hj) (ml_rw hi hj) hP1 oq1
          rw [mset_mset] at hw
          have ekp : mKp (N (60 + 8 * i + j)) nx = 1 := by unfold mKp; rw [if_pos c_11]
          have efx : mFx (mKp (N (60 + 8 * i + j)) nx) (mLf cd wv) (N (60 + 8 * i + j) 3) (N (60 + 8 * i + j) 8) = 0 := by rw [ekp, ← elf]; unfold mFx; rw [if_neg c_188, if_pos c_201]
          exact ke_uv hx hb hr hlk hS dX7_see_238 (by unfold mSee; rw [if_neg c_41, ← ecd, ← ewv]; unfold mSeeT; rw [efx, ekp, ← elf, ← ect]; exact hw)
        · refine lv_aload hx hb dX7_see_204 (lv_at hl 1 rfl) ?_
          refine lv_bipush (v := 8) hx hb dX7_see_206 (by decide) ?_
          refine k_iald (v := ((N (60 + 8 * i + j)) 3)) hx hb hG (show va_P D vwCl [(md (60 + 8 * i + j), .inl (cy 0, 12, .inl (upd (upd (upd (upd (upd (upd (upd (upd (upd (upd (upd (N (60 + 8 * i + j)) 11 1) 5 0) 6 0) 7 0) 9 ((N (60 + 8 * i + j)) 8)) 8 ((N (60 + 8 * i + j)) 3)) 4 1) 0 cd) 1 wv) 2 ct) 3 lf)))] _ from by have h := hw.rw hi hj; rw [mset_s] at h; exact h) (show vp_in (nI 8) 12 from vp_in_nI (by decide) (by decide)) (congrArg (upd (upd (upd (upd (upd (upd (upd (upd (upd (upd (upd (N (60 + 8 * i + j)) 11 1) 5 0) 6 0) 7 0) 9 ((N (60 + 8 * i + j)) 8)) 8 ((N (60 + 8 * i + j)) 3)) 4 1) 0 cd) 1 wv) 2 ct) 3 lf) (clI 8 (by decide))) dX7_see_208 ?_
          refine lv_bipush (v := (-2)) hx hb dX7_see_209 (by decide) ?_
          refine lv_iconst (v := 2) hx hb dX7_see_211 (by decide) ?_
          refine kc_i (kr_S (As := [.int ((N (60 + 8 * i + j)) 3), .int (-2), .int 2]) (rest := [.int 5, .ref (md (60 + 8 * i + j))]) hx hb hml hown hG (c_X7_is l D cy ((N (60 + 8 * i + j)) 3) (-2) 2) cf_X7_is wM_X7_86 trivial ⟨rfl, rfl, by decide, by decide⟩ rfl rfl (Nat.le_of_ble_eq_true rfl) ⟨Nat.le_of_ble_eq_true rfl, Nat.le_of_ble_eq_true rfl⟩ dX7_see_212) ?_
          refine lv_if_eq (tgt := 236) hx hb dX7_see_215 (by decide) (fun c_215 => ?_) (fun c_215 => ?_)
          · refine lv_iconst (v := 0) hx hb dX7_see_236 (by decide) ?_
            refine k_iast hx hb hG (show va_P D vwCl [(md (60 + 8 * i + j), .inl (cy 0, 12, .inl (upd (upd (upd (upd (upd (upd (upd (upd (upd (upd (upd (N (60 + 8 * i + j)) 11 1) 5 0) 6 0) 7 0) 9 ((N (60 + 8 * i + j)) 8)) 8 ((N (60 + 8 * i + j)) 3)) 4 1) 0 cd) 1 wv) 2 ct) 3 lf)))] _ from by have h := hw.rw hi hj; rw [mset_s] at h; exact h) hS (MA.i (mk_rw hi hj)) (show vp_in (nI 5) 12 from vp_in_nI (by decide) (by decide)) dX7_see_237 (fun H1 locs hP1 z1 oq1 hS => ?_)
            rw [show Int32.toNatClampNeg 5 = 5 from clI 5 (by decide)] at hP1
            have hw := hw.setI hA (mk_rw hi hj) (ml_rw hi hj) hP1 oq1
            rw [mset_mset] at hw
            have ekp : mKp (N (60 + 8 * i + j)) nx = 1 := by unfold mKp; rw [if_pos c_11]
            have efx : mFx (mKp (N (60 + 8 * i + j)) nx) (mLf cd wv) (N (60 + 8 * i + j) 3) (N (60 + 8 * i + j) 8) = 0 := by rw [ekp, ← elf]; unfold mFx; rw [if_neg c_188, if_neg c_201, if_pos c_215]
            exact ke_uv hx hb hr hlk hS dX7_see_238 (by unfold mSee; rw [if_neg c_41, ← ecd, ← ewv]; unfold mSeeT; rw [efx, ekp, ← elf, ← ect]; exact hw)
          · refine lv_aload hx hb dX7_see_218 (lv_at hl 1 rfl) ?_
            refine lv_bipush (v := 9) hx hb dX7_see_220 (by decide) ?_
            refine k_iald (v := ((N (60 + 8 * i + j)) 8)) hx hb hG (show va_P D vwCl [(md (60 + 8 * i + j), .inl (cy 0, 12, .inl (upd (upd (upd (upd (upd (upd (upd (upd (upd (upd (upd (N (60 + 8 * i + j)) 11 1) 5 0) 6 0) 7 0) 9 ((N (60 + 8 * i + j)) 8)) 8 ((N (60 + 8 * i + j)) 3)) 4 1) 0 cd) 1 wv) 2 ct) 3 lf)))] _ from by have h := hw.rw hi hj; rw [mset_s] at h; exact h) (show vp_in (nI 9) 12 from vp_in_nI (by decide) (by decide)) (congrArg (upd (upd (upd (upd (upd (upd (upd (upd (upd (upd (upd (N (60 + 8 * i + j)) 11 1) 5 0) 6 0) 7 0) 9 ((N (60 + 8 * i + j)) 8)) 8 ((N (60 + 8 * i + j)) 3)) 4 1) 0 cd) 1 wv) 2 ct) 3 lf) (clI 9 (by decide))) dX7_see_222 ?_
            refine lv_bipush (v := (-2)) hx hb dX7_see_223 (by decide) ?_
            refine lv_iconst (v := 2) hx hb dX7_see_225 (by decide) ?_
            refine kc_i (kr_S (As := [.int ((N (60 + 8 * i + j)) 8), .int (-2), .int 2]) (rest := [.int 5, .ref (md (60 + 8 * i + j))]) hx hb hml hown hG (c_X7_is l D cy ((N (60 + 8 * i + j)) 8) (-2) 2) cf_X7_is wM_X7_86 trivial ⟨rfl, rfl, by decide, by decide⟩ rfl rfl (Nat.le_of_ble_eq_true rfl) ⟨Nat.le_of_ble_eq_true rfl, Nat.le_of_ble_eq_true rfl⟩ dX7_see_226) ?_
            refine lv_if_eq (tgt := 236) hx hb dX7_see_229 (by decide) (fun c_229 => ?_) (fun c_229 => ?_)
            · refine lv_iconst (v := 0) hx hb dX7_see_236 (by decide) ?_
              refine k_iast hx hb hG (show va_P D vwCl [(md (60 + 8 * i + j), .inl (cy 0, 12, .inl (upd (upd (upd (upd (upd (upd (upd (upd (upd (upd (upd (N (60 + 8 * i + j)) 11 1) 5 0) 6 0) 7 0) 9 ((N (60 + 8 * i + j)) 8)) 8 ((N (60 + 8 * i + j)) 3)) 4 1) 0 cd) 1 wv) 2 ct) 3 lf)))] _ from by have h := hw.rw hi hj; rw [mset_s] at h; exact h) hS (MA.i (mk_rw hi hj)) (show vp_in (nI 5) 12 from vp_in_nI (by decide) (by decide)) dX7_see_237 (fun H1 locs hP1 z1 oq1 hS => ?_)
              rw [show Int32.toNatClampNeg 5 = 5 from clI 5 (by decide)] at hP1
              have hw := hw.setI hA (mk_rw hi hj) (ml_rw hi hj) hP1 oq1
              rw [mset_mset] at hw
              have ekp : mKp (N (60 + 8 * i + j)) nx = 1 := by unfold mKp; rw [if_pos c_11]
              have efx : mFx (mKp (N (60 + 8 * i + j)) nx) (mLf cd wv) (N (60 + 8 * i + j) 3) (N (60 + 8 * i + j) 8) = 0 := by rw [ekp, ← elf]; unfold mFx; rw [if_neg c_188, if_neg c_201, if_neg c_215, if_pos c_229]
              exact ke_uv hx hb hr hlk hS dX7_see_238 (by unfold mSee; rw [if_neg c_41, ← ecd, ← ewv]; unfold mSeeT; rw [efx, ekp, ← elf, ← ect]; exact hw)
            · refine lv_iconst (v := 1) hx hb dX7_see_232 (by decide) ?_
              refine lv_goto (tgt := 237) hx hb dX7_see_233 (by decide) ?_
              refine k_iast hx hb hG (show va_P D vwCl [(md (60 + 8 * i + j), .inl (cy 0, 12, .inl (upd (upd (upd (upd (upd (upd (upd (upd (upd (upd (upd (N (60 + 8 * i + j)) 11 1) 5 0) 6 0) 7 0) 9 ((N (60 + 8 * i + j)) 8)) 8 ((N (60 + 8 * i + j)) 3)) 4 1) 0 cd) 1 wv) 2 ct) 3 lf)))] _ from by have h := hw.rw hi hj; rw [mset_s] at h; exact h) hS (MA.i (mk_rw hi hj)) (show vp_in (nI 5) 12 from vp_in_nI (by decide) (by decide)) dX7_see_237 (fun H1 locs hP1 z1 oq1 hS => ?_)
              rw [show Int32.toNatClampNeg 5 = 5 from clI 5 (by decide)] at hP1
              have hw := hw.setI hA (mk_rw hi hj) (ml_rw hi hj) hP1 oq1
              rw [mset_mset] at hw
              have ekp : mKp (N (60 + 8 * i + j)) nx = 1 := by unfold mKp; rw [if_pos c_11]
              have efx : mFx (mKp (N (60 + 8 * i + j)) nx) (mLf cd wv) (N (60 + 8 * i + j) 3) (N (60 + 8 * i + j) 8) = 1 := by rw [ekp, ← elf]; unfold mFx; rw [if_neg c_188, if_neg c_201, if_neg c_215, if_neg c_229]
              exact ke_uv hx hb hr hlk hS dX7_see_238 (by unfold mSee; rw [if_neg c_41, ← ecd, ← ewv]; unfold mSeeT; rw [efx, ekp, ← elf, ← ect]; exact hw)
  · refine lv_aload hx hb dX7_see_14 (lv_at hl 0 rfl) ?_
    refine lv_bipush (v := 11) hx hb dX7_see_16 (by decide) ?_
    refine k_iald (v := ((N (60 + 8 * i + j)) 11)) hx hb hG (hw.rw hi hj) (show vp_in (nI 11) 12 from vp_in_nI (by decide) (by decide)) (congrArg (N (60 + 8 * i + j)) (clI 11 (by decide))) dX7_see_18 ?_
    refine lv_iconst (v := 1) hx hb dX7_see_19 (by decide) ?_
    refine lv_icmp_ne (tgt := 27) hx hb dX7_see_20 (by decide) (fun c_20 => ?_) (fun c_20 => ?_)
    · refine lv_iconst (v := 0) hx hb dX7_see_27 (by decide) ?_
      refine lv_istore (lv' := [(5, .int 0), (4, .ref (md (60 + 8 * i + j))), (0, .ref (md 0)), (1, .int (nI i)), (2, .int (nI j)), (3, .int nx)]) hx hb dX7_see_28 hl (by decide) rfl (fun ls hl => ?_)
      have hml : c.maxLocals = ls.size := hml9.trans hl.1.symm
      refine lv_aload hx hb dX7_see_30 (lv_at hl 1 rfl) ?_
      refine lv_bipush (v := 11) hx hb dX7_see_32 (by decide) ?_
      refine lv_aload_n hx hb dX7_see_34 rfl (lv_at hl 2 rfl) ?_
      refine lv_iload_n hx hb dX7_see_35 rfl (lv_at hl 3 rfl) ?_
      refine lv_iload_n hx hb dX7_see_36 rfl (lv_at hl 4 rfl) ?_
      refine lv_iconst (v := 0) hx hb dX7_see_37 (by decide) ?_
      refine kc_i (kr_V (As := [.int (nI i), .int (nI j), .int 0]) (rest := [.int 11, .ref (md (60 + 8 * i + j))]) hx hb hml hown hG (c_X7_sees l D cy md N co su i j hi hj 0) cf_X7_sees wM_X7_82 hw.o rfl hw ⟨rfl, rfl, by decide, by decide⟩ rfl rfl (Nat.le_of_ble_eq_true rfl) ⟨Nat.le_of_ble_eq_true rfl, Nat.le_of_ble_eq_true rfl⟩ dX7_see_38) ?_
      refine lv_if_eq (tgt := 48) hx hb dX7_see_41 (by decide) (fun c_41 => ?_) (fun c_41 => ?_)
      · refine lv_iconst (v := 0) hx hb dX7_see_48 (by decide) ?_
        refine k_iast hx hb hG (hw.rw hi hj) hS (MA.i (mk_rw hi hj)) (show vp_in (nI 11) 12 from vp_in_nI (by decide) (by decide)) dX7_see_49 (fun H1 locs hP1 z1 oq1 hS => ?_)
        rw [show Int32.toNatClampNeg 11 = 11 from clI 11 (by decide)] at hP1
        have hw := hw.setI hA (mk_rw hi hj) (ml_rw hi hj) hP1 oq1
        refine lv_aload hx hb dX7_see_50 (lv_at hl 1 rfl) ?_
        refine lv_iconst (v := 5) hx hb dX7_see_52 (by decide) ?_
        refine lv_iconst (v := 0) hx hb dX7_see_53 (by decide) ?_
        refine k_iast hx hb hG (show va_P D vwCl [(md (60 + 8 * i + j), .inl (cy 0, 12, .inl (upd (N (60 + 8 * i + j)) 11 0)))] _ from by have h := hw.rw hi hj; rw [mset_s] at h; exact h) hS (MA.i (mk_rw hi hj)) (show vp_in (nI 5) 12 from vp_in_nI (by decide) (by decide)) dX7_see_54 (fun H1 locs hP1 z1 oq1 hS => ?_)
        rw [show Int32.toNatClampNeg 5 = 5 from clI 5 (by decide)] at hP1
        have hw := hw.setI hA (mk_rw hi hj) (ml_rw hi hj) hP1 oq1
        rw [mset_mset] at hw
        refine lv_aload hx hb dX7_see_55 (lv_at hl 1 rfl) ?_
        refine lv_bipush (v := 6) hx hb dX7_see_57 (by decide) ?_
        refine lv_iconst (v := 0) hx hb dX7_see_59 (by decide) ?_
        refine k_iast hx hb hG (show va_P D vwCl [(md (60 + 8 * i + j), .inl (cy 0, 12, .inl (upd (upd (N (60 + 8 * i + j)) 11 0) 5 0)))] _ from by have h := hw.rw hi hj; rw [mset_s] at h; exact h) hS (MA.i (mk_rw hi hj)) (show vp_in (nI 6) 12 from vp_in_nI (by decide) (by decide)) dX7_see_60 (fun H1 locs hP1 z1 oq1 hS => ?_)
        rw [show Int32.toNatClampNeg 6 = 6 from clI 6 (by decide)] at hP1
        have hw := hw.setI hA (mk_rw hi hj) (ml_rw hi hj) hP1 oq1
        rw [mset_mset] at hw
        refine lv_aload hx hb dX7_see_61 (lv_at hl 1 rfl) ?_
        refine lv_bipush (v := 7) hx hb dX7_see_63 (by decide) ?_
        refine lv_iconst (v := 0) hx hb dX7_see_65 (by decide) ?_
        refine k_iast hx hb hG (show va_P D vwCl [(md (60 + 8 * i + j), .inl (cy 0, 12, .inl (upd (upd (upd (N (60 + 8 * i + j)) 11 0) 5 0) 6 0)))] _ from by have h := hw.rw hi hj; rw [mset_s] at h; exact h) hS (MA.i (mk_rw hi hj)) (show vp_in (nI 7) 12 from vp_in_nI (by decide) (by decide)) dX7_see_66 (fun H1 locs hP1 z1 oq1 hS => ?_)
        rw [show Int32.toNatClampNeg 7 = 7 from clI 7 (by decide)] at hP1
        have hw := hw.setI hA (mk_rw hi hj) (ml_rw hi hj) hP1 oq1
        rw [mset_mset] at hw
        refine lv_aload hx hb dX7_see_67 (lv_at hl 1 rfl) ?_
        refine lv_bipush (v := 11) hx hb dX7_see_69 (by decide) ?_
        refine k_iald (v := 0) hx hb hG (show va_P D vwCl [(md (60 + 8 * i + j), .inl (cy 0, 12, .inl (upd (upd (upd (upd (N (60 + 8 * i + j)) 11 0) 5 0) 6 0) 7 0)))] _ from by have h := hw.rw hi hj; rw [mset_s] at h; exact h) (show vp_in (nI 11) 12 from vp_in_nI (by decide) (by decide)) (congrArg (upd (upd (upd (upd (N (60 + 8 * i + j)) 11 0) 5 0) 6 0) 7 0) (clI 11 (by decide))) dX7_see_71 ?_
        refine lv_if_ne (tgt := 76) hx hb dX7_see_72 (by decide) (fun q9 => absurd (show (0 : Int32) = 0 by decide) q9) (fun _ => ?_)
        exact ke_uv hx hb hr hlk hS dX7_see_75 (by unfold mSee; rw [if_pos c_41]; exact hw)
      · refine lv_iconst (v := 1) hx hb dX7_see_44 (by decide) ?_
        refine lv_goto (tgt := 49) hx hb dX7_see_45 (by decide) ?_
        refine k_iast hx hb hG (hw.rw hi hj) hS (MA.i (mk_rw hi hj)) (show vp_in (nI 11) 12 from vp_in_nI (by decide) (by decide)) dX7_see_49 (fun H1 locs hP1 z1 oq1 hS => ?_)
        rw [show Int32.toNatClampNeg 11 = 11 from clI 11 (by decide)] at hP1
        have hw := hw.setI hA (mk_rw hi hj) (ml_rw hi hj) hP1 oq1
        refine lv_aload hx hb dX7_see_50 (lv_at hl 1 rfl) ?_
        refine lv_iconst (v := 5) hx hb dX7_see_52 (by decide) ?_
        refine lv_iconst (v := 0) hx hb dX7_see_53 (by decide) ?_
        refine k_iast hx hb hG (show va_P D vwCl [(md (60 + 8 * i + j), .inl (cy 0, 12, .inl (upd (N (60 + 8 * i + j)) 11 1)))] _ from by have h := hw.rw hi hj; rw [mset_s] at h; exact h) hS (MA.i (mk_rw hi hj)) (show vp_in (nI 5) 12 from vp_in_nI (by decide) (by decide)) dX7_see_54 (fun H1 locs hP1 z1 oq1 hS => ?_)
        rw [show Int32.toNatClampNeg 5 = 5 from clI 5 (by decide)] at hP1
        have hw := hw.setI hA (mk_rw hi hj) (ml_rw hi hj) hP1 oq1
        rw [mset_mset] at hw
        refine lv_aload hx hb dX7_see_55 (lv_at hl 1 rfl) ?_
        refine lv_bipush (v := 6) hx hb dX7_see_57 (by decide) ?_
        refine lv_iconst (v := 0) hx hb dX7_see_59 (by decide) ?_
        refine k_iast hx hb hG (show va_P D vwCl [(md (60 + 8 * i + j), .inl (cy 0, 12, .inl (upd (upd (N (60 + 8 * i + j)) 11 1) 5 0)))] _ from by have h := hw.rw hi hj; rw [mset_s] at h; exact h) hS (MA.i (mk_rw hi hj)) (show vp_in (nI 6) 12 from vp_in_nI (by decide) (by decide)) dX7_see_60 (fun H1 locs hP1 z1 oq1 hS => ?_)
        rw [show Int32.toNatClampNeg 6 = 6 from clI 6 (by decide)] at hP1
        have hw := hw.setI hA (mk_rw hi hj) (ml_rw hi hj) hP1 oq1
        rw [mset_mset] at hw
        refine lv_aload hx hb dX7_see_61 (lv_at hl 1 rfl) ?_
        refine lv_bipush (v := 7) hx hb dX7_see_63 (by decide) ?_
        refine lv_iconst (v := 0) hx hb dX7_see_65 (by decide) ?_
        refine k_iast hx hb hG (show va_P D vwCl [(md (60 + 8 * i + j), .inl (cy 0, 12, .inl (upd (upd (upd (N (60 + 8 * i + j)) 11 1) 5 0) 6 0)))] _ from by have h := hw.rw hi hj; rw [mset_s] at h; exact h) hS (MA.i (mk_rw hi hj)) (show vp_in (nI 7) 12 from vp_in_nI (by decide) (by decide)) dX7_see_66 (fun H1 locs hP1 z1 oq1 hS => ?_)
        rw [show Int32.toNatClampNeg 7 = 7 from clI 7 (by decide)] at hP1
        have hw := hw.setI hA (mk_rw hi hj) (ml_rw hi hj) hP1 oq1
        rw [mset_mset] at hw
        refine lv_aload hx hb dX7_see_67 (lv_at hl 1 rfl) ?_
        refine lv_bipush (v := 11) hx hb dX7_see_69 (by decide) ?_
        refine k_iald (v := 1) hx hb hG (show va_P D vwCl [(md (60 + 8 * i + j), .inl (cy 0, 12, .inl (upd (upd (upd (upd (N (60 + 8 * i + j)) 11 1) 5 0) 6 0) 7 0)))] _ from by have h := hw.rw hi hj; rw [mset_s] at h; exact h) (show vp_in (nI 11) 12 from vp_in_nI (by decide) (by decide)) (congrArg (upd (upd (upd (upd (N (60 + 8 * i + j)) 11 1) 5 0) 6 0) 7 0) (clI 11 (by decide))) dX7_see_71 ?_
        refine lv_if_ne (tgt := 76) hx hb dX7_see_72 (by decide) (fun _ => ?_) (fun q9 => absurd q9 (show ¬ (1 : Int32) = 0 by decide))
        refine lv_aload hx hb dX7_see_76 (lv_at hl 1 rfl) ?_
        refine lv_bipush (v := 9) hx hb dX7_see_78 (by decide) ?_
        refine lv_aload hx hb dX7_see_80 (lv_at hl 1 rfl) ?_
        refine lv_bipush (v := 8) hx hb dX7_see_82 (by decide) ?_
        refine k_iald (v := ((N (60 + 8 * i + j)) 8)) hx hb hG (show va_P D vwCl [(md (60 + 8 * i + j), .inl (cy 0, 12, .inl (upd (upd (upd (upd (N (60 + 8 * i + j)) 11 1) 5 0) 6 0) 7 0)))] _ from by have h := hw.rw hi hj; rw [mset_s] at h; exact h) (show vp_in (nI 8) 12 from vp_in_nI (by decide) (by decide)) (congrArg (upd (upd (upd (upd (N (60 + 8 * i + j)) 11 1) 5 0) 6 0) 7 0) (clI 8 (by decide))) dX7_see_84 ?_
        refine k_iast hx hb hG (show va_P D vwCl [(md (60 + 8 * i + j), .inl (cy 0, 12, .inl (upd (upd (upd (upd (N (60 + 8 * i + j)) 11 1) 5 0) 6 0) 7 0)))] _ from by have h := hw.rw hi hj; rw [mset_s] at h; exact h) hS (MA.i (mk_rw hi hj)) (show vp_in (nI 9) 12 from vp_in_nI (by decide) (by decide)) dX7_see_85 (fun H1 locs hP1 z1 oq1 hS => ?_)
        rw [show Int32.toNatClampNeg 9 = 9 from clI 9 (by decide)] at hP1
        have hw := hw.setI hA (mk_rw hi hj) (ml_rw hi hj) hP1 oq1
        rw [mset_mset] at hw
        refine lv_aload hx hb dX7_see_86 (lv_at hl 1 rfl) ?_
        refine lv_bipush (v := 8) hx hb dX7_see_88 (by decide) ?_
        refine lv_aload hx hb dX7_see_90 (lv_at hl 1 rfl) ?_
        refine lv_iconst (v := 3) hx hb dX7_see_92 (by decide) ?_
        refine k_iald (v := ((N (60 + 8 * i + j)) 3)) hx hb hG (show va_P D vwCl [(md (60 + 8 * i + j), .inl (cy 0, 12, .inl (upd (upd (upd (upd (upd (N (60 + 8 * i + j)) 11 1) 5 0) 6 0) 7 0) 9 ((N (60 + 8 * i + j)) 8))))] _ from by have h := hw.rw hi hj; rw [mset_s] at h; exact h) (show vp_in (nI 3) 12 from vp_in_nI (by decide) (by decide)) (congrArg (upd (upd (upd (upd (upd (N (60 + 8 * i + j)) 11 1) 5 0) 6 0) 7 0) 9 ((N (60 + 8 * i + j)) 8)) (clI 3 (by decide))) dX7_see_93 ?_
        refine k_iast hx hb hG (show va_P D vwCl [(md (60 + 8 * i + j), .inl (cy 0, 12, .inl (upd (upd (upd (upd (upd (N (60 + 8 * i + j)) 11 1) 5 0) 6 0) 7 0) 9 ((N (60 + 8 * i + j)) 8))))] _ from by have h := hw.rw hi hj; rw [mset_s] at h; exact h) hS (MA.i (mk_rw hi hj)) (show vp_in (nI 8) 12 from vp_in_nI (by decide) (by decide)) dX7_see_94 (fun H1 locs hP1 z1 oq1 hS => ?_)
        rw [show Int32.toNatClampNeg 8 = 8 from clI 8 (by decide)] at hP1
        have hw := hw.setI hA (mk_rw hi hj) (ml_rw hi hj) hP1 oq1
        rw [mset_mset] at hw
        refine lv_aload hx hb dX7_see_95 (lv_at hl 1 rfl) ?_
        refine lv_iconst (v := 4) hx hb dX7_see_97 (by decide) ?_
        refine lv_iload hx hb dX7_see_98 (lv_at hl 0 rfl) ?_
        refine lv_if_eq (tgt := 112) hx hb dX7_see_100 (by decide) (fun _ => ?_) (fun q9 => absurd (show (0 : Int32) = 0 by decide) q9)
        refine lv_iconst (v := 1) hx hb dX7_see_112 (by decide) ?_
        refine k_iast hx hb hG (show va_P D vwCl [(md (60 + 8 * i + j), .inl (cy 0, 12, .inl (upd (upd (upd (upd (upd (upd (N (60 + 8 * i + j)) 11 1) 5 0) 6 0) 7 0) 9 ((N (60 + 8 * i + j)) 8)) 8 ((N (60 + 8 * i + j)) 3))))] _ from by have h := hw.rw hi hj; rw [mset_s] at h; exact h) hS (MA.i (mk_rw hi hj)) (show vp_in (nI 4) 12 from vp_in_nI (by decide) (by decide)) dX7_see_113 (fun H1 locs hP1 z1 oq1 hS => ?_)
        rw [show Int32.toNatClampNeg 4 = 4 from clI 4 (by decide)] at hP1
        have hw := hw.setI hA (mk_rw hi hj) (ml_rw hi hj) hP1 oq1
        rw [mset_mset] at hw
        refine lv_aload hx hb dX7_see_114 (lv_at hl 1 rfl) ?_
        refine lv_iconst (v := 0) hx hb dX7_see_116 (by decide) ?_
        refine lv_aload_n hx hb dX7_see_117 rfl (lv_at hl 2 rfl) ?_
        refine lv_iload_n hx hb dX7_see_118 rfl (lv_at hl 3 rfl) ?_
        refine lv_iload_n hx hb dX7_see_119 rfl (lv_at hl 4 rfl) ?_
        refine kc_i (kr_V (As := [.int (nI i), .int (nI j)]) (rest := [.int 0, .ref (md (60 + 8 * i + j))]) hx hb hml hown hG (c_X7_codeOf l D cy md (mset N (60 + 8 * i + j) (upd (upd (upd (upd (upd (upd (upd (N (60 + 8 * i + j)) 11 1) 5 0) 6 0) 7 0) 9 ((N (60 + 8 * i + j)) 8)) 8 ((N (60 + 8 * i + j)) 3)) 4 1)) co su i j hi hj) cf_X7_codeOf wM_X7_170 hw.o rfl hw ⟨rfl, rfl, by decide, by decide⟩ rfl rfl (Nat.le_of_ble_eq_true rfl) ⟨Nat.le_of_ble_eq_true rfl, Nat.le_of_ble_eq_true rfl⟩ dX7_see_120) ?_
        refine lv_topi (fun cd ecd => ?_)
        rw [mset_n (show (0 : Nat) ≠ 60 + 8 * i + j by omega), mset_n (show (40 + i : Nat) ≠ 60 + 8 * i + j by omega), mset_n (show (10 + j : Nat) ≠ 60 + 8 * i + j by omega)] at ecd
        refine k_iast hx hb hG (show va_P D vwCl [(md (60 + 8 * i + j), .inl (cy 0, 12, .inl (upd (upd (upd (upd (upd (upd (upd (N (60 + 8 * i + j)) 11 1) 5 0) 6 0) 7 0) 9 ((N (60 + 8 * i + j)) 8)) 8 ((N (60 + 8 * i + j)) 3)) 4 1)))] _ from by have h := hw.rw hi hj; rw [mset_s] at h; exact h) hS (MA.i (mk_rw hi hj)) (show vp_in (nI 0) 12 from vp_in_nI (by decide) (by decide)) dX7_see_123 (fun H1 locs hP1 z1 oq1 hS => ?_)
        rw [show Int32.toNatClampNeg 0 = 0 from clI 0 (by decide)] at hP1
        have hw := hw.setI hA (mk_rw hi hj) (ml_rw hi hj) hP1 oq1
        rw [mset_mset] at hw
        refine lv_aload hx hb dX7_see_124 (lv_at hl 1 rfl) ?_
        refine lv_iconst (v := 1) hx hb dX7_see_126 (by decide) ?_
        refine lv_aload_n hx hb dX7_see_127 rfl (lv_at hl 2 rfl) ?_
        refine lv_iload_n hx hb dX7_see_128 rfl (lv_at hl 3 rfl) ?_
        refine lv_iload_n hx hb dX7_see_129 rfl (lv_at hl 4 rfl) ?_
        refine kc_i (kr_V (As := [.int (nI i), .int (nI j)]) (rest := [.int 1, .ref (md (60 + 8 * i + j))]) hx hb hml hown hG (c_X7_trueOf l D cy md (mset N (60 + 8 * i + j) (upd (upd (upd (upd (upd (upd (upd (upd (N (60 + 8 * i + j)) 11 1) 5 0) 6 0) 7 0) 9 ((N (60 + 8 * i + j)) 8)) 8 ((N (60 + 8 * i + j)) 3)) 4 1) 0 cd)) co su i j hi hj) cf_X7_trueOf wM_X7_134 hw.o rfl hw ⟨rfl, rfl, by decide, by decide⟩ rfl rfl (Nat.le_of_ble_eq_true rfl) ⟨Nat.le_of_ble_eq_true rfl, Nat.le_of_ble_eq_true rfl⟩ dX7_see_130) ?_
        refine lv_topi (fun tr etr => ?_)
        rw [mset_n (show (40 + i : Nat) ≠ 60 + 8 * i + j by omega), mset_n (show (10 + j : Nat) ≠ 60 + 8 * i + j by omega)] at etr
        refine lv_bipush (v := 10) hx hb dX7_see_133 (by decide) ?_
        refine kc_i (kr_S (As := [.int tr, .int 10]) (rest := [.int 1, .ref (md (60 + 8 * i + j))]) hx hb hml hown hG (c_J9_floorMod_7cf53 l D cy tr 10 (by decide)) cf_J9_floorMod_7cf53 wM_X7_54 trivial ⟨rfl, rfl, by decide, by decide⟩ rfl rfl (Nat.le_of_ble_eq_true rfl) ⟨Nat.le_of_ble_eq_true rfl, Nat.le_of_ble_eq_true rfl⟩ dX7_see_135) ?_
        refine lv_topi (fun wv ewv0 => ?_)
        refine k_iast hx hb hG (show va_P D vwCl [(md (60 + 8 * i + j), .inl (cy 0, 12, .inl (upd (upd (upd (upd (upd (upd (upd (upd (N (60 + 8 * i + j)) 11 1) 5 0) 6 0) 7 0) 9 ((N (60 + 8 * i + j)) 8)) 8 ((N (60 + 8 * i + j)) 3)) 4 1) 0 cd)))] _ from by have h := hw.rw hi hj; rw [mset_s] at h; exact h) hS (MA.i (mk_rw hi hj)) (show vp_in (nI 1) 12 from vp_in_nI (by decide) (by decide)) dX7_see_138 (fun H1 locs hP1 z1 oq1 hS => ?_)
        rw [show Int32.toNatClampNeg 1 = 1 from clI 1 (by decide)] at hP1
        have hw := hw.setI hA (mk_rw hi hj) (ml_rw hi hj) hP1 oq1
        rw [mset_mset] at hw
        have ewv : wv = pFMod (mTrue (N (40 + i)) (N (10 + j))) 10 := by rw [ewv0, etr]
        refine lv_aload hx hb dX7_see_139 (lv_at hl 1 rfl) ?_
        refine lv_iconst (v := 2) hx hb dX7_see_141 (by decide) ?_
        refine lv_aload hx hb dX7_see_142 (lv_at hl 1 rfl) ?_
        refine lv_iconst (v := 0) hx hb dX7_see_144 (by decide) ?_
        refine k_iald (v := cd) hx hb hG (show va_P D vwCl [(md (60 + 8 * i + j), .inl (cy 0, 12, .inl (upd (upd (upd (upd (upd (upd (upd (upd (upd (N (60 + 8 * i + j)) 11 1) 5 0) 6 0) 7 0) 9 ((N (60 + 8 * i + j)) 8)) 8 ((N (60 + 8 * i + j)) 3)) 4 1) 0 cd) 1 wv)))] _ from by have h := hw.rw hi hj; rw [mset_s] at h; exact h) (show vp_in (nI 0) 12 from vp_in_nI (by decide) (by decide)) (congrArg (upd (upd (upd (upd (upd (upd (upd (upd (upd (N (60 + 8 * i + j)) 11 1) 5 0) 6 0) 7 0) 9 ((N (60 + 8 * i + j)) 8)) 8 ((N (60 + 8 * i + j)) 3)) 4 1) 0 cd) 1 wv) (clI 0 (by decide))) dX7_see_145 ?_
        refine lv_aload hx hb dX7_see_146 (lv_at hl 1 rfl) ?_
        refine lv_iconst (v := 1) hx hb dX7_see_148 (by decide) ?_
        refine k_iald (v := wv) hx hb hG (show va_P D vwCl [(md (60 + 8 * i + j), .inl (cy 0, 12, .inl (upd (upd (upd (upd (upd (upd (upd (upd (upd (N (60 + 8 * i + j)) 11 1) 5 0) 6 0) 7 0) 9 ((N (60 + 8 * i + j)) 8)) 8 ((N (60 + 8 * i + j)) 3)) 4 1) 0 cd) 1 wv)))] _ from by have h := hw.rw hi hj; rw [mset_s] at h; exact h) (show vp_in (nI 1) 12 from vp_in_nI (by decide) (by decide)) (congrArg (upd (upd (upd (upd (upd (upd (upd (upd (upd (N (60 + 8 * i + j)) 11 1) 5 0) 6 0) 7 0) 9 ((N (60 + 8 * i + j)) 8)) 8 ((N (60 + 8 * i + j)) 3)) 4 1) 0 cd) 1 wv) (clI 1 (by decide))) dX7_see_149 ?_
        refine lv_isub hx hb dX7_see_150 ?_
        refine lv_iconst (v := 5) hx hb dX7_see_151 (by decide) ?_
        refine lv_iadd hx hb dX7_see_152 ?_
        refine lv_bipush (v := 10) hx hb dX7_see_153 (by decide) ?_
        refine kc_i (kr_S (As := [.int ((cd - wv) + 5), .int 10]) (rest := [.int 2, .ref (md (60 + 8 * i + j))]) hx hb hml hown hG (c_J9_floorDiv_7cf53 l D cy ((cd - wv) + 5) 10 (by decide)) cf_J9_floorDiv_7cf53 wM_X7_137 trivial ⟨rfl, rfl, by decide, by decide⟩ rfl rfl (Nat.le_of_ble_eq_true rfl) ⟨Nat.le_of_ble_eq_true rfl, Nat.le_of_ble_eq_true rfl⟩ dX7_see_155) ?_
        refine lv_topi (fun ct ect => ?_)
        refine k_iast hx hb hG (show va_P D vwCl [(md (60 + 8 * i + j), .inl (cy 0, 12, .inl (upd (upd (upd (upd (upd (upd (upd (upd (upd (N (60 + 8 * i + j)) 11 1) 5 0) 6 0) 7 0) 9 ((N (60 + 8 * i + j)) 8)) 8 ((N (60 + 8 * i + j)) 3)) 4 1) 0 cd) 1 wv)))] _ from by have h := hw.rw hi hj; rw [mset_s] at h; exact h) hS (MA.i (mk_rw hi hj)) (show vp_in (nI 2) 12 from vp_in_nI (by decide) (by decide)) dX7_see_158 (fun H1 locs hP1 z1 oq1 hS => ?_)
        rw [show Int32.toNatClampNeg 2 = 2 from clI 2 (by decide)] at hP1
        have hw := hw.setI hA (mk_rw hi hj) (ml_rw hi hj) hP1 oq1
        rw [mset_mset] at hw
        refine lv_aload hx hb dX7_see_159 (lv_at hl 1 rfl) ?_
        refine lv_iconst (v := 3) hx hb dX7_see_161 (by decide) ?_
        refine lv_aload hx hb dX7_see_162 (lv_at hl 1 rfl) ?_
        refine lv_iconst (v := 0) hx hb dX7_see_164 (by decide) ?_
        refine k_iald (v := cd) hx hb hG (show va_P D vwCl [(md (60 + 8 * i + j), .inl (cy 0, 12, .inl (upd (upd (upd (upd (upd (upd (upd (upd (upd (upd (N (60 + 8 * i + j)) 11 1) 5 0) 6 0) 7 0) 9 ((N (60 + 8 * i + j)) 8)) 8 ((N (60 + 8 * i + j)) 3)) 4 1) 0 cd) 1 wv) 2 ct)))] _ from by have h := hw.rw hi hj; rw [mset_s] at h; exact h) (show vp_in (nI 0) 12 from vp_in_nI (by decide) (by decide)) (congrArg (upd (upd (upd (upd (upd (upd (upd (upd (upd (upd (N (60 + 8 * i + j)) 11 1) 5 0) 6 0) 7 0) 9 ((N (60 + 8 * i + j)) 8)) 8 ((N (60 + 8 * i + j)) 3)) 4 1) 0 cd) 1 wv) 2 ct) (clI 0 (by decide))) dX7_see_165 ?_
        refine lv_aload hx hb dX7_see_166 (lv_at hl 1 rfl) ?_
        refine lv_iconst (v := 1) hx hb dX7_see_168 (by decide) ?_
        refine k_iald (v := wv) hx hb hG (show va_P D vwCl [(md (60 + 8 * i + j), .inl (cy 0, 12, .inl (upd (upd (upd (upd (upd (upd (upd (upd (upd (upd (N (60 + 8 * i + j)) 11 1) 5 0) 6 0) 7 0) 9 ((N (60 + 8 * i + j)) 8)) 8 ((N (60 + 8 * i + j)) 3)) 4 1) 0 cd) 1 wv) 2 ct)))] _ from by have h := hw.rw hi hj; rw [mset_s] at h; exact h) (show vp_in (nI 1) 12 from vp_in_nI (by decide) (by decide)) (congrArg (upd (upd (upd (upd (upd (upd (upd (upd (upd (upd (N (60 + 8 * i + j)) 11 1) 5 0) 6 0) 7 0) 9 ((N (60 + 8 * i + j)) 8)) 8 ((N (60 + 8 * i + j)) 3)) 4 1) 0 cd) 1 wv) 2 ct) (clI 1 (by decide))) dX7_see_169 ?_
        refine lv_isub hx hb dX7_see_170 ?_
        refine lv_bipush (v := 10) hx hb dX7_see_171 (by decide) ?_
        refine lv_aload hx hb dX7_see_173 (lv_at hl 1 rfl) ?_
        refine lv_iconst (v := 2) hx hb dX7_see_175 (by decide) ?_
        refine k_iald (v := ct) hx hb hG (show va_P D vwCl [(md (60 + 8 * i + j), .inl (cy 0, 12, .inl (upd (upd (upd (upd (upd (upd (upd (upd (upd (upd (N (60 + 8 * i + j)) 11 1) 5 0) 6 0) 7 0) 9 ((N (60 + 8 * i + j)) 8)) 8 ((N (60 + 8 * i + j)) 3)) 4 1) 0 cd) 1 wv) 2 ct)))] _ from by have h := hw.rw hi hj; rw [mset_s] at h; exact h) (show vp_in (nI 2) 12 from vp_in_nI (by decide) (by decide)) (congrArg (upd (upd (upd (upd (upd (upd (upd (upd (upd (upd (N (60 + 8 * i + j)) 11 1) 5 0) 6 0) 7 0) 9 ((N (60 + 8 * i + j)) 8)) 8 ((N (60 + 8 * i + j)) 3)) 4 1) 0 cd) 1 wv) 2 ct) (clI 2 (by decide))) dX7_see_176 ?_
        refine lv_imul hx hb dX7_see_177 ?_
        refine lv_isub hx hb dX7_see_178 ?_
        refine lv_topi (fun lf elf0 => ?_)
        refine k_iast hx hb hG (show va_P D vwCl [(md (60 + 8 * i + j), .inl (cy 0, 12, .inl (upd (upd (upd (upd (upd (upd (upd (upd (upd (upd (N (60 + 8 * i + j)) 11 1) 5 0) 6 0) 7 0) 9 ((N (60 + 8 * i + j)) 8)) 8 ((N (60 + 8 * i + j)) 3)) 4 1) 0 cd) 1 wv) 2 ct)))] _ from by have h := hw.rw hi hj; rw [mset_s] at h; exact h) hS (MA.i (mk_rw hi hj)) (show vp_in (nI 3) 12 from vp_in_nI (by decide) (by decide)) dX7_see_179 (fun H1 locs hP1 z1 oq1 hS => ?_)
        rw [show Int32.toNatClampNeg 3 = 3 from clI 3 (by decide)] at hP1
        have hw := hw.setI hA (mk_rw hi hj) (ml_rw hi hj) hP1 oq1
        rw [mset_mset] at hw
        have elf : lf = mLf cd wv := by rw [elf0, ect]; rfl
        have ect : ct = mCt cd wv := ect
        refine lv_aload hx hb dX7_see_180 (lv_at hl 1 rfl) ?_
        refine lv_iconst (v := 5) hx hb dX7_see_182 (by decide) ?_
        refine lv_aload hx hb dX7_see_183 (lv_at hl 1 rfl) ?_
        refine lv_iconst (v := 4) hx hb dX7_see_185 (by decide) ?_
        refine k_iald (v := 1) hx hb hG (show va_P D vwCl [(md (60 + 8 * i + j), .inl (cy 0, 12, .inl (upd (upd (upd (upd (upd (upd (upd (upd (upd (upd (upd (N (60 + 8 * i + j)) 11 1) 5 0) 6 0) 7 0) 9 ((N (60 + 8 * i + j)) 8)) 8 ((N (60 + 8 * i + j)) 3)) 4 1) 0 cd) 1 wv) 2 ct) 3 lf)))] _ from by have h := hw.rw hi hj; rw [mset_s] at h; exact h) (show vp_in (nI 4) 12 from vp_in_nI (by decide) (by decide)) (congrArg (upd (upd (upd (upd (upd (upd (upd (upd (upd (upd (upd (N (60 + 8 * i + j)) 11 1) 5 0) 6 0) 7 0) 9 ((N (60 + 8 * i + j)) 8)) 8 ((N (60 + 8 * i + j)) 3)) 4 1) 0 cd) 1 wv) 2 ct) 3 lf) (clI 4 (by decide))) dX7_see_186 ?_
        refine lv_iconst (v := 3) hx hb dX7_see_187 (by decide) ?_
        refine lv_icmp_lt (tgt := 236) hx hb dX7_see_188 (by decide) (fun c_188 => ?_) (fun c_188 => ?_)
        · refine lv_iconst (v := 0) hx hb dX7_see_236 (by decide) ?_
          refine k_iast hx hb hG (show va_P D vwCl [(md (60 + 8 * i + j), .inl (cy 0, 12, .inl (upd (upd (upd (upd (upd (upd (upd (upd (upd (upd (upd (N (60 + 8 * i + j)) 11 1) 5 0) 6 0) 7 0) 9 ((N (60 + 8 * i + j)) 8)) 8 ((N (60 + 8 * i + j)) 3)) 4 1) 0 cd) 1 wv) 2 ct) 3 lf)))] _ from by have h := hw.rw hi hj; rw [mset_s] at h; exact h) hS (MA.i (mk_rw hi hj)) (show vp_in (nI 5) 12 from vp_in_nI (by decide) (by decide)) dX7_see_237 (fun H1 locs hP1 z1 oq1 hS => ?_)
          rw [show Int32.toNatClampNeg 5 = 5 from clI 5 (by decide)] at hP1
          have hw := hw.setI hA (mk_rw hi hj) (ml_rw hi hj) hP1 oq1
          rw [mset_mset] at hw
          have ekp : mKp (N (60 + 8 * i + j)) nx = 1 := by unfold mKp; rw [if_neg c_11, if_neg c_20]
          have efx : mFx (mKp (N (60 + 8 * i + j)) nx) (mLf cd wv) (N (60 + 8 * i + j) 3) (N (60 + 8 * i + j) 8) = 0 := by rw [ekp, ← elf]; unfold mFx; rw [if_pos c_188]
          exact ke_uv hx hb hr hlk hS dX7_see_238 (by unfold mSee; rw [if_neg c_41, ← ecd, ← ewv]; unfold mSeeT; rw [efx, ekp, ← elf, ← ect]; exact hw)
        · refine lv_aload hx hb dX7_see_191 (lv_at hl 1 rfl) ?_
          refine lv_iconst (v := 3) hx hb dX7_see_193 (by decide) ?_
          refine k_iald (v := lf) hx hb hG (show va_P D vwCl [(md (60 + 8 * i + j), .inl (cy 0, 12, .inl (upd (upd (upd (upd (upd (upd (upd (upd (upd (upd (upd (N (60 + 8 * i + j)) 11 1) 5 0) 6 0) 7 0) 9 ((N (60 + 8 * i + j)) 8)) 8 ((N (60 + 8 * i + j)) 3)) 4 1) 0 cd) 1 wv) 2 ct) 3 lf)))] _ from by have h := hw.rw hi hj; rw [mset_s] at h; exact h) (show vp_in (nI 3) 12 from vp_in_nI (by decide) (by decide)) (congrArg (upd (upd (upd (upd (upd (upd (upd (upd (upd (upd (upd (N (60 + 8 * i + j)) 11 1) 5 0) 6 0) 7 0) 9 ((N (60 + 8 * i + j)) 8)) 8 ((N (60 + 8 * i + j)) 3)) 4 1) 0 cd) 1 wv) 2 ct) 3 lf) (clI 3 (by decide))) dX7_see_194 ?_
          refine lv_bipush (v := (-2)) hx hb dX7_see_195 (by decide) ?_
          refine lv_iconst (v := 2) hx hb dX7_see_197 (by decide) ?_
          refine kc_i (kr_S (As := [.int lf, .int (-2), .int 2]) (rest := [.int 5, .ref (md (60 + 8 * i + j))]) hx hb hml hown hG (c_X7_is l D cy lf (-2) 2) cf_X7_is wM_X7_86 trivial ⟨rfl, rfl, by decide, by decide⟩ rfl rfl (Nat.le_of_ble_eq_true rfl) ⟨Nat.le_of_ble_eq_true rfl, Nat.le_of_ble_eq_true rfl⟩ dX7_see_198) ?_
          refine lv_if_eq (tgt := 236) hx hb dX7_see_201 (by decide) (fun c_201 => ?_) (fun c_201 => ?_)
          · refine lv_iconst (v := 0) hx hb dX7_see_236 (by decide) ?_
            refine k_iast hx hb hG (show va_P D vwCl [(md (60 + 8 * i + j), .inl (cy 0, 12, .inl (upd (upd (upd (upd (upd (upd (upd (upd (upd (upd (upd (N (60 + 8 * i + j)) 11 1) 5 0) 6 0) 7 0) 9 ((N (60 + 8 * i + j)) 8)) 8 ((N (60 + 8 * i + j)) 3)) 4 1) 0 cd) 1 wv) 2 ct) 3 lf)))] _ from by have h := hw.rw hi hj; rw [mset_s] at h; exact h) hS (MA.i (mk_rw hi hj)) (show vp_in (nI 5) 12 from vp_in_nI (by decide) (by decide)) dX7_see_237 (fun H1 locs hP1 z1 oq1 hS => ?_)
            rw [show Int32.toNatClampNeg 5 = 5 from clI 5 (by decide)] at hP1
            have hw := hw.setI hA (mk_rw hi hj) (ml_rw hi hj) hP1 oq1
            rw [mset_mset] at hw
            have ekp : mKp (N (60 + 8 * i + j)) nx = 1 := by unfold mKp; rw [if_neg c_11, if_neg c_20]
            have efx : mFx (mKp (N (60 + 8 * i + j)) nx) (mLf cd wv) (N (60 + 8 * i + j) 3) (N (60 + 8 * i + j) 8) = 0 := by rw [ekp, ← elf]; unfold mFx; rw [if_neg c_188, if_pos c_201]
            exact ke_uv hx hb hr hlk hS dX7_see_238 (by unfold mSee; rw [if_neg c_41, ← ecd, ← ewv]; unfold mSeeT; rw [efx, ekp, ← elf, ← ect]; exact hw)
          · refine lv_aload hx hb dX7_see_204 (lv_at hl 1 rfl) ?_
            refine lv_bipush (v := 8) hx hb dX7_see_206 (by decide) ?_
            refine k_iald (v := ((N (60 + 8 * i + j)) 3)) hx hb hG (show va_P D vwCl [(md (60 + 8 * i + j), .inl (cy 0, 12, .inl (upd (upd (upd (upd (upd (upd (upd (upd (upd (upd (upd (N (60 + 8 * i + j)) 11 1) 5 0) 6 0) 7 0) 9 ((N (60 + 8 * i + j)) 8)) 8 ((N (60 + 8 * i + j)) 3)) 4 1) 0 cd) 1 wv) 2 ct) 3 lf)))] _ from by have h := hw.rw hi hj; rw [mset_s] at h; exact h) (show vp_in (nI 8) 12 from vp_in_nI (by decide) (by decide)) (congrArg (upd (upd (upd (upd (upd (upd (upd (upd (upd (upd (upd (N (60 + 8 * i + j)) 11 1) 5 0) 6 0) 7 0) 9 ((N (60 + 8 * i + j)) 8)) 8 ((N (60 + 8 * i + j)) 3)) 4 1) 0 cd) 1 wv) 2 ct) 3 lf) (clI 8 (by decide))) dX7_see_208 ?_
            refine lv_bipush (v := (-2)) hx hb dX7_see_209 (by decide) ?_
            refine lv_iconst (v := 2) hx hb dX7_see_211 (by decide) ?_
            refine kc_i (kr_S (As := [.int ((N (60 + 8 * i + j)) 3), .int (-2), .int 2]) (rest := [.int 5, .ref (md (60 + 8 * i + j))]) hx hb hml hown hG (c_X7_is l D cy ((N (60 + 8 * i + j)) 3) (-2) 2) cf_X7_is wM_X7_86 trivial ⟨rfl, rfl, by decide, by decide⟩ rfl rfl (Nat.le_of_ble_eq_true rfl) ⟨Nat.le_of_ble_eq_true rfl, Nat.le_of_ble_eq_true rfl⟩ dX7_see_212) ?_
            refine lv_if_eq (tgt := 236) hx hb dX7_see_215 (by decide) (fun c_215 => ?_) (fun c_215 => ?_)
            · refine lv_iconst (v := 0) hx hb dX7_see_236 (by decide) ?_
              refine k_iast hx hb hG (show va_P D vwCl [(md (60 + 8 * i + j), .inl (cy 0, 12, .inl (upd (upd (upd (upd (upd (upd (upd (upd (upd (upd (upd (N (60 + 8 * i + j)) 11 1) 5 0) 6 0) 7 0) 9 ((N (60 + 8 * i + j)) 8)) 8 ((N (60 + 8 * i + j)) 3)) 4 1) 0 cd) 1 wv) 2 ct) 3 lf)))] _ from by have h := hw.rw hi hj; rw [mset_s] at h; exact h) hS (MA.i (mk_rw hi hj)) (show vp_in (nI 5) 12 from vp_in_nI (by decide) (by decide)) dX7_see_237 (fun H1 locs hP1 z1 oq1 hS => ?_)
              rw [show Int32.toNatClampNeg 5 = 5 from clI 5 (by decide)] at hP1
              have hw := hw.setI hA (mk_rw hi hj) (ml_rw hi hj) hP1 oq1
              rw [mset_mset] at hw
              have ekp : mKp (N (60 + 8 * i + j)) nx = 1 := by unfold mKp; rw [if_neg c_11, if_neg c_20]
              have efx : mFx (mKp (N (60 + 8 * i + j)) nx) (mLf cd wv) (N (60 + 8 * i + j) 3) (N (60 + 8 * i + j) 8) = 0 := by rw [ekp, ← elf]; unfold mFx; rw [if_neg c_188, if_neg c_201, if_pos c_215]
              exact ke_uv hx hb hr hlk hS dX7_see_238 (by unfold mSee; rw [if_neg c_41, ← ecd, ← ewv]; unfold mSeeT; rw [efx, ekp, ← elf, ← ect]; exact hw)
            · refine lv_aload hx hb dX7_see_218 (lv_at hl 1 rfl) ?_
              refine lv_bipush (v := 9) hx hb dX7_see_220 (by decide) ?_
              refine k_iald (v := ((N (60 + 8 * i + j)) 8)) hx hb hG (show va_P D vwCl [(md (60 + 8 * i + j), .inl (cy 0, 12, .inl (upd (upd (upd (upd (upd (upd (upd (upd (upd (upd (upd (N (60 + 8 * i + j)) 11 1) 5 0) 6 0) 7 0) 9 ((N (60 + 8 * i + j)) 8)) 8 ((N (60 + 8 * i + j)) 3)) 4 1) 0 cd) 1 wv) 2 ct) 3 lf)))] _ from by have h := hw.rw hi hj; rw [mset_s] at h; exact h) (show vp_in (nI 9) 12 from vp_in_nI (by decide) (by decide)) (congrArg (upd (upd (upd (upd (upd (upd (upd (upd (upd (upd (upd (N (60 + 8 * i + j)) 11 1) 5 0) 6 0) 7 0) 9 ((N (60 + 8 * i + j)) 8)) 8 ((N (60 + 8 * i + j)) 3)) 4 1) 0 cd) 1 wv) 2 ct) 3 lf) (clI 9 (by decide))) dX7_see_222 ?_
              refine lv_bipush (v := (-2)) hx hb dX7_see_223 (by decide) ?_
              refine lv_iconst (v := 2) hx hb dX7_see_225 (by decide) ?_
              refine kc_i (kr_S (As := [.int ((N (60 + 8 * i + j)) 8), .int (-2), .int 2]) (rest := [.int 5, .ref (md (60 + 8 * i + j))]) hx hb hml hown hG (c_X7_is l D cy ((N (60 + 8 * i + j)) 8) (-2) 2) cf_X7_is wM_X7_86 trivial ⟨rfl, rfl, by decide, by decide⟩ rfl rfl (Nat.le_of_ble_eq_true rfl) ⟨Nat.le_of_ble_eq_true rfl, Nat.le_of_ble_eq_true rfl⟩ dX7_see_226) ?_
              refine lv_if_eq (tgt := 236) hx hb dX7_see_229 (by decide) (fun c_229 => ?_) (fun c_229 => ?_)
              · refine lv_iconst (v := 0) hx hb dX7_see_236 (by decide) ?_
                refine k_iast hx hb hG (show va_P D vwCl [(md (60 + 8 * i + j), .inl (cy 0, 12, .inl (upd (upd (upd (upd (upd (upd (upd (upd (upd (upd (upd (N (60 + 8 * i + j)) 11 1) 5 0) 6 0) 7 0) 9 ((N (60 + 8 * i + j)) 8)) 8 ((N (60 + 8 * i + j)) 3)) 4 1) 0 cd) 1 wv) 2 ct) 3 lf)))] _ from by have h := hw.rw hi hj; rw [mset_s] at h; exact h) hS (MA.i (mk_rw hi hj)) (show vp_in (nI 5) 12 from vp_in_nI (by decide) (by decide)) dX7_see_237 (fun H1 locs hP1 z1 oq1 hS => ?_)
                rw [show Int32.toNatClampNeg 5 = 5 from clI 5 (by decide)] at hP1
                have hw := hw.setI hA (mk_rw hi hj) (ml_rw hi hj) hP1 oq1
                rw [mset_mset] at hw
                have ekp : mKp (N (60 + 8 * i + j)) nx = 1 := by unfold mKp; rw [if_neg c_11, if_neg c_20]
                have efx : mFx (mKp (N (60 + 8 * i + j)) nx) (mLf cd wv) (N (60 + 8 * i + j) 3) (N (60 + 8 * i + j) 8) = 0 := by rw [ekp, ← elf]; unfold mFx; rw [if_neg c_188, if_neg c_201, if_neg c_215, if_pos c_229]
                exact ke_uv hx hb hr hlk hS dX7_see_238 (by unfold mSee; rw [if_neg c_41, ← ecd, ← ewv]; unfold mSeeT; rw [efx, ekp, ← elf, ← ect]; exact hw)
              · refine lv_iconst (v := 1) hx hb dX7_see_232 (by decide) ?_
                refine lv_goto (tgt := 237) hx hb dX7_see_233 (by decide) ?_
                refine k_iast hx hb hG (show va_P D vwCl [(md (60 + 8 * i + j), .inl (cy 0, 12, .inl (upd (upd (upd (upd (upd (upd (upd (upd (upd (upd (upd (N (60 + 8 * i + j)) 11 1) 5 0) 6 0) 7 0) 9 ((N (60 + 8 * i + j)) 8)) 8 ((N (60 + 8 * i + j)) 3)) 4 1) 0 cd) 1 wv) 2 ct) 3 lf)))] _ from by have h := hw.rw hi hj; rw [mset_s] at h; exact h) hS (MA.i (mk_rw hi hj)) (show vp_in (nI 5) 12 from vp_in_nI (by decide) (by decide)) dX7_see_237 (fun H1 locs hP1 z1 oq1 hS => ?_)
                rw [show Int32.toNatClampNeg 5 = 5 from clI 5 (by decide)] at hP1
                have hw := hw.setI hA (mk_rw hi hj) (ml_rw hi hj) hP1 oq1
                rw [mset_mset] at hw
                have ekp : mKp (N (60 + 8 * i + j)) nx = 1 := by unfold mKp; rw [if_neg c_11, if_neg c_20]
                have efx : mFx (mKp (N (60 + 8 * i + j)) nx) (mLf cd wv) (N (60 + 8 * i + j) 3) (N (60 + 8 * i + j) 8) = 1 := by rw [ekp, ← elf]; unfold mFx; rw [if_neg c_188, if_neg c_201, if_neg c_215, if_neg c_229]
                exact ke_uv hx hb hr hlk hS dX7_see_238 (by unfold mSee; rw [if_neg c_41, ← ecd, ← ewv]; unfold mSeeT; rw [efx, ekp, ← elf, ← ect]; exact hw)
    · refine lv_iconst (v := 1) hx hb dX7_see_23 (by decide) ?_
      refine lv_goto (tgt := 28) hx hb dX7_see_24 (by decide) ?_
      refine lv_istore (lv' := [(5, .int 1), (4, .ref (md (60 + 8 * i + j))), (0, .ref (md 0)), (1, .int (nI i)), (2, .int (nI j)), (3, .int nx)]) hx hb dX7_see_28 hl (by decide) rfl (fun ls hl => ?_)
      have hml : c.maxLocals = ls.size := hml9.trans hl.1.symm
      refine lv_aload hx hb dX7_see_30 (lv_at hl 1 rfl) ?_
      refine lv_bipush (v := 11) hx hb dX7_see_32 (by decide) ?_
      refine lv_aload_n hx hb dX7_see_34 rfl (lv_at hl 2 rfl) ?_
      refine lv_iload_n hx hb dX7_see_35 rfl (lv_at hl 3 rfl) ?_
      refine lv_iload_n hx hb dX7_see_36 rfl (lv_at hl 4 rfl) ?_
      refine lv_iconst (v := 0) hx hb dX7_see_37 (by decide) ?_
      refine kc_i (kr_V (As := [.int (nI i), .int (nI j), .int 0]) (rest := [.int 11, .ref (md (60 + 8 * i + j))]) hx hb hml hown hG (c_X7_sees l D cy md N co su i j hi hj 0) cf_X7_sees wM_X7_82 hw.o rfl hw ⟨rfl, rfl, by decide, by decide⟩ rfl rfl (Nat.le_of_ble_eq_true rfl) ⟨Nat.le_of_ble_eq_true rfl, Nat.le_of_ble_eq_true rfl⟩ dX7_see_38) ?_
      refine lv_if_eq (tgt := 48) hx hb dX7_see_41 (by decide) (fun c_41 => ?_) (fun c_41 => ?_)
      · refine lv_iconst (v := 0) hx hb dX7_see_48 (by decide) ?_
        refine k_iast hx hb hG (hw.rw hi hj) hS (MA.i (mk_rw hi hj)) (show vp_in (nI 11) 12 from vp_in_nI (by decide) (by decide)) dX7_see_49 (fun H1 locs hP1 z1 oq1 hS => ?_)
        rw [show Int32.toNatClampNeg 11 = 11 from clI 11 (by decide)] at hP1
        have hw := hw.setI hA (mk_rw hi hj) (ml_rw hi hj) hP1 oq1
        refine lv_aload hx hb dX7_see_50 (lv_at hl 1 rfl) ?_
        refine lv_iconst (v := 5) hx hb dX7_see_52 (by decide) ?_
        refine lv_iconst (v := 0) hx hb dX7_see_53 (by decide) ?_
        refine k_iast hx hb hG (show va_P D vwCl [(md (60 + 8 * i + j), .inl (cy 0, 12, .inl (upd (N (60 + 8 * i + j)) 11 0)))] _ from by have h := hw.rw hi hj; rw [mset_s] at h; exact h) hS (MA.i (mk_rw hi hj)) (show vp_in (nI 5) 12 from vp_in_nI (by decide) (by decide)) dX7_see_54 (fun H1 locs hP1 z1 oq1 hS => ?_)
        rw [show Int32.toNatClampNeg 5 = 5 from clI 5 (by decide)] at hP1
        have hw := hw.setI hA (mk_rw hi hj) (ml_rw hi hj) hP1 oq1
        rw [mset_mset] at hw
        refine lv_aload hx hb dX7_see_55 (lv_at hl 1 rfl) ?_
        refine lv_bipush (v := 6) hx hb dX7_see_57 (by decide) ?_
        refine lv_iconst (v := 0) hx hb dX7_see_59 (by decide) ?_
        refine k_iast hx hb hG (show va_P D vwCl [(md (60 + 8 * i + j), .inl (cy 0, 12, .inl (upd (upd (N (60 + 8 * i + j)) 11 0) 5 0)))] _ from by have h := hw.rw hi hj; rw [mset_s] at h; exact h) hS (MA.i (mk_rw hi hj)) (show vp_in (nI 6) 12 from vp_in_nI (by decide) (by decide)) dX7_see_60 (fun H1 locs hP1 z1 oq1 hS => ?_)
        rw [show Int32.toNatClampNeg 6 = 6 from clI 6 (by decide)] at hP1
        have hw := hw.setI hA (mk_rw hi hj) (ml_rw hi hj) hP1 oq1
        rw [mset_mset] at hw
        refine lv_aload hx hb dX7_see_61 (lv_at hl 1 rfl) ?_
        refine lv_bipush (v := 7) hx hb dX7_see_63 (by decide) ?_
        refine lv_iconst (v := 0) hx hb dX7_see_65 (by decide) ?_
        refine k_iast hx hb hG (show va_P D vwCl [(md (60 + 8 * i + j), .inl (cy 0, 12, .inl (upd (upd (upd (N (60 + 8 * i + j)) 11 0) 5 0) 6 0)))] _ from by have h := hw.rw hi hj; rw [mset_s] at h; exact h) hS (MA.i (mk_rw hi hj)) (show vp_in (nI 7) 12 from vp_in_nI (by decide) (by decide)) dX7_see_66 (fun H1 locs hP1 z1 oq1 hS => ?_)
        rw [show Int32.toNatClampNeg 7 = 7 from clI 7 (by decide)] at hP1
        have hw := hw.setI hA (mk_rw hi hj) (ml_rw hi hj) hP1 oq1
        rw [mset_mset] at hw
        refine lv_aload hx hb dX7_see_67 (lv_at hl 1 rfl) ?_
        refine lv_bipush (v := 11) hx hb dX7_see_69 (by decide) ?_
        refine k_iald (v := 0) hx hb hG (show va_P D vwCl [(md (60 + 8 * i + j), .inl (cy 0, 12, .inl (upd (upd (upd (upd (N (60 + 8 * i + j)) 11 0) 5 0) 6 0) 7 0)))] _ from by have h := hw.rw hi hj; rw [mset_s] at h; exact h) (show vp_in (nI 11) 12 from vp_in_nI (by decide) (by decide)) (congrArg (upd (upd (upd (upd (N (60 + 8 * i + j)) 11 0) 5 0) 6 0) 7 0) (clI 11 (by decide))) dX7_see_71 ?_
        refine lv_if_ne (tgt := 76) hx hb dX7_see_72 (by decide) (fun q9 => absurd (show (0 : Int32) = 0 by decide) q9) (fun _ => ?_)
        exact ke_uv hx hb hr hlk hS dX7_see_75 (by unfold mSee; rw [if_pos c_41]; exact hw)
      · refine lv_iconst (v := 1) hx hb dX7_see_44 (by decide) ?_
        refine lv_goto (tgt := 49) hx hb dX7_see_45 (by decide) ?_
        refine k_iast hx hb hG (hw.rw hi hj) hS (MA.i (mk_rw hi hj)) (show vp_in (nI 11) 12 from vp_in_nI (by decide) (by decide)) dX7_see_49 (fun H1 locs hP1 z1 oq1 hS => ?_)
        rw [show Int32.toNatClampNeg 11 = 11 from clI 11 (by decide)] at hP1
        have hw := hw.setI hA (mk_rw hi hj) (ml_rw hi hj) hP1 oq1
        refine lv_aload hx hb dX7_see_50 (lv_at hl 1 rfl) ?_
        refine lv_iconst (v := 5) hx hb dX7_see_52 (by decide) ?_
        refine lv_iconst (v := 0) hx hb dX7_see_53 (by decide) ?_
        refine k_iast hx hb hG (show va_P D vwCl [(md (60 + 8 * i + j), .inl (cy 0, 12, .inl (upd (N (60 + 8 * i + j)) 11 1)))] _ from by have h := hw.rw hi hj; rw [mset_s] at h; exact h) hS (MA.i (mk_rw hi hj)) (show vp_in (nI 5) 12 from vp_in_nI (by decide) (by decide)) dX7_see_54 (fun H1 locs hP1 z1 oq1 hS => ?_)
        rw [show Int32.toNatClampNeg 5 = 5 from clI 5 (by decide)] at hP1
        have hw := hw.setI hA (mk_rw hi hj) (ml_rw hi hj) hP1 oq1
        rw [mset_mset] at hw
        refine lv_aload hx hb dX7_see_55 (lv_at hl 1 rfl) ?_
        refine lv_bipush (v := 6) hx hb dX7_see_57 (by decide) ?_
        refine lv_iconst (v := 0) hx hb dX7_see_59 (by decide) ?_
        refine k_iast hx hb hG (show va_P D vwCl [(md (60 + 8 * i + j), .inl (cy 0, 12, .inl (upd (upd (N (60 + 8 * i + j)) 11 1) 5 0)))] _ from by have h := hw.rw hi hj; rw [mset_s] at h; exact h) hS (MA.i (mk_rw hi hj)) (show vp_in (nI 6) 12 from vp_in_nI (by decide) (by decide)) dX7_see_60 (fun H1 locs hP1 z1 oq1 hS => ?_)
        rw [show Int32.toNatClampNeg 6 = 6 from clI 6 (by decide)] at hP1
        have hw := hw.setI hA (mk_rw hi hj) (ml_rw hi hj) hP1 oq1
        rw [mset_mset] at hw
        refine lv_aload hx hb dX7_see_61 (lv_at hl 1 rfl) ?_
        refine lv_bipush (v := 7) hx hb dX7_see_63 (by decide) ?_
        refine lv_iconst (v := 0) hx hb dX7_see_65 (by decide) ?_
        refine k_iast hx hb hG (show va_P D vwCl [(md (60 + 8 * i + j), .inl (cy 0, 12, .inl (upd (upd (upd (N (60 + 8 * i + j)) 11 1) 5 0) 6 0)))] _ from by have h := hw.rw hi hj; rw [mset_s] at h; exact h) hS (MA.i (mk_rw hi hj)) (show vp_in (nI 7) 12 from vp_in_nI (by decide) (by decide)) dX7_see_66 (fun H1 locs hP1 z1 oq1 hS => ?_)
        rw [show Int32.toNatClampNeg 7 = 7 from clI 7 (by decide)] at hP1
        have hw := hw.setI hA (mk_rw hi hj) (ml_rw hi hj) hP1 oq1
        rw [mset_mset] at hw
        refine lv_aload hx hb dX7_see_67 (lv_at hl 1 rfl) ?_
        refine lv_bipush (v := 11) hx hb dX7_see_69 (by decide) ?_
        refine k_iald (v := 1) hx hb hG (show va_P D vwCl [(md (60 + 8 * i + j), .inl (cy 0, 12, .inl (upd (upd (upd (upd (N (60 + 8 * i + j)) 11 1) 5 0) 6 0) 7 0)))] _ from by have h := hw.rw hi hj; rw [mset_s] at h; exact h) (show vp_in (nI 11) 12 from vp_in_nI (by decide) (by decide)) (congrArg (upd (upd (upd (upd (N (60 + 8 * i + j)) 11 1) 5 0) 6 0) 7 0) (clI 11 (by decide))) dX7_see_71 ?_
        refine lv_if_ne (tgt := 76) hx hb dX7_see_72 (by decide) (fun _ => ?_) (fun q9 => absurd q9 (show ¬ (1 : Int32) = 0 by decide))
        refine lv_aload hx hb dX7_see_76 (lv_at hl 1 rfl) ?_
        refine lv_bipush (v := 9) hx hb dX7_see_78 (by decide) ?_
        refine lv_aload hx hb dX7_see_80 (lv_at hl 1 rfl) ?_
        refine lv_bipush (v := 8) hx hb dX7_see_82 (by decide) ?_
        refine k_iald (v := ((N (60 + 8 * i + j)) 8)) hx hb hG (show va_P D vwCl [(md (60 + 8 * i + j), .inl (cy 0, 12, .inl (upd (upd (upd (upd (N (60 + 8 * i + j)) 11 1) 5 0) 6 0) 7 0)))] _ from by have h := hw.rw hi hj; rw [mset_s] at h; exact h) (show vp_in (nI 8) 12 from vp_in_nI (by decide) (by decide)) (congrArg (upd (upd (upd (upd (N (60 + 8 * i + j)) 11 1) 5 0) 6 0) 7 0) (clI 8 (by decide))) dX7_see_84 ?_
        refine k_iast hx hb hG (show va_P D vwCl [(md (60 + 8 * i + j), .inl (cy 0, 12, .inl (upd (upd (upd (upd (N (60 + 8 * i + j)) 11 1) 5 0) 6 0) 7 0)))] _ from by have h := hw.rw hi hj; rw [mset_s] at h; exact h) hS (MA.i (mk_rw hi hj)) (show vp_in (nI 9) 12 from vp_in_nI (by decide) (by decide)) dX7_see_85 (fun H1 locs hP1 z1 oq1 hS => ?_)
        rw [show Int32.toNatClampNeg 9 = 9 from clI 9 (by decide)] at hP1
        have hw := hw.setI hA (mk_rw hi hj) (ml_rw hi hj) hP1 oq1
        rw [mset_mset] at hw
        refine lv_aload hx hb dX7_see_86 (lv_at hl 1 rfl) ?_
        refine lv_bipush (v := 8) hx hb dX7_see_88 (by decide) ?_
        refine lv_aload hx hb dX7_see_90 (lv_at hl 1 rfl) ?_
        refine lv_iconst (v := 3) hx hb dX7_see_92 (by decide) ?_
        refine k_iald (v := ((N (60 + 8 * i + j)) 3)) hx hb hG (show va_P D vwCl [(md (60 + 8 * i + j), .inl (cy 0, 12, .inl (upd (upd (upd (upd (upd (N (60 + 8 * i + j)) 11 1) 5 0) 6 0) 7 0) 9 ((N (60 + 8 * i + j)) 8))))] _ from by have h := hw.rw hi hj; rw [mset_s] at h; exact h) (show vp_in (nI 3) 12 from vp_in_nI (by decide) (by decide)) (congrArg (upd (upd (upd (upd (upd (N (60 + 8 * i + j)) 11 1) 5 0) 6 0) 7 0) 9 ((N (60 + 8 * i + j)) 8)) (clI 3 (by decide))) dX7_see_93 ?_
        refine k_iast hx hb hG (show va_P D vwCl [(md (60 + 8 * i + j), .inl (cy 0, 12, .inl (upd (upd (upd (upd (upd (N (60 + 8 * i + j)) 11 1) 5 0) 6 0) 7 0) 9 ((N (60 + 8 * i + j)) 8))))] _ from by have h := hw.rw hi hj; rw [mset_s] at h; exact h) hS (MA.i (mk_rw hi hj)) (show vp_in (nI 8) 12 from vp_in_nI (by decide) (by decide)) dX7_see_94 (fun H1 locs hP1 z1 oq1 hS => ?_)
        rw [show Int32.toNatClampNeg 8 = 8 from clI 8 (by decide)] at hP1
        have hw := hw.setI hA (mk_rw hi hj) (ml_rw hi hj) hP1 oq1
        rw [mset_mset] at hw
        refine lv_aload hx hb dX7_see_95 (lv_at hl 1 rfl) ?_
        refine lv_iconst (v := 4) hx hb dX7_see_97 (by decide) ?_
        refine lv_iload hx hb dX7_see_98 (lv_at hl 0 rfl) ?_
        refine lv_if_eq (tgt := 112) hx hb dX7_see_100 (by decide) (fun q9 => absurd q9 (show ¬ (1 : Int32) = 0 by decide)) (fun _ => ?_)
        refine lv_aload hx hb dX7_see_103 (lv_at hl 1 rfl) ?_
        refine lv_iconst (v := 4) hx hb dX7_see_105 (by decide) ?_
        refine k_iald (v := ((N (60 + 8 * i + j)) 4)) hx hb hG (show va_P D vwCl [(md (60 + 8 * i + j), .inl (cy 0, 12, .inl (upd (upd (upd (upd (upd (upd (N (60 + 8 * i + j)) 11 1) 5 0) 6 0) 7 0) 9 ((N (60 + 8 * i + j)) 8)) 8 ((N (60 + 8 * i + j)) 3))))] _ from by have h := hw.rw hi hj; rw [mset_s] at h; exact h) (show vp_in (nI 4) 12 from vp_in_nI (by decide) (by decide)) (congrArg (upd (upd (upd (upd (upd (upd (N (60 + 8 * i + j)) 11 1) 5 0) 6 0) 7 0) 9 ((N (60 + 8 * i + j)) 8)) 8 ((N (60 + 8 * i + j)) 3)) (clI 4 (by decide))) dX7_see_106 ?_
        refine lv_iconst (v := 1) hx hb dX7_see_107 (by decide) ?_
        refine lv_iadd hx hb dX7_see_108 ?_
        refine lv_goto (tgt := 113) hx hb dX7_see_109 (by decide) ?_
        refine k_iast hx hb hG (show va_P D vwCl [(md (60 + 8 * i + j), .inl (cy 0, 12, .inl (upd (upd (upd (upd (upd (upd (N (60 + 8 * i + j)) 11 1) 5 0) 6 0) 7 0) 9 ((N (60 + 8 * i + j)) 8)) 8 ((N (60 + 8 * i + j)) 3))))] _ from by have h := hw.rw hi hj; rw [mset_s] at h; exact h) hS (MA.i (mk_rw hi hj)) (show vp_in (nI 4) 12 from vp_in_nI (by decide) (by decide)) dX7_see_113 (fun H1 locs hP1 z1 oq1 hS => ?_)
        rw [show Int32.toNatClampNeg 4 = 4 from clI 4 (by decide)] at hP1
        have hw := hw.setI hA (mk_rw hi hj) (ml_rw hi hj) hP1 oq1
        rw [mset_mset] at hw
        refine lv_aload hx hb dX7_see_114 (lv_at hl 1 rfl) ?_
        refine lv_iconst (v := 0) hx hb dX7_see_116 (by decide) ?_
        refine lv_aload_n hx hb dX7_see_117 rfl (lv_at hl 2 rfl) ?_
        refine lv_iload_n hx hb dX7_see_118 rfl (lv_at hl 3 rfl) ?_
        refine lv_iload_n hx hb dX7_see_119 rfl (lv_at hl 4 rfl) ?_
        refine kc_i (kr_V (As := [.int (nI i), .int (nI j)]) (rest := [.int 0, .ref (md (60 + 8 * i + j))]) hx hb hml hown hG (c_X7_codeOf l D cy md (mset N (60 + 8 * i + j) (upd (upd (upd (upd (upd (upd (upd (N (60 + 8 * i + j)) 11 1) 5 0) 6 0) 7 0) 9 ((N (60 + 8 * i + j)) 8)) 8 ((N (60 + 8 * i + j)) 3)) 4 (((N (60 + 8 * i + j)) 4) + 1))) co su i j hi hj) cf_X7_codeOf wM_X7_170 hw.o rfl hw ⟨rfl, rfl, by decide, by decide⟩ rfl rfl (Nat.le_of_ble_eq_true rfl) ⟨Nat.le_of_ble_eq_true rfl, Nat.le_of_ble_eq_true rfl⟩ dX7_see_120) ?_
        refine lv_topi (fun cd ecd => ?_)
        rw [mset_n (show (0 : Nat) ≠ 60 + 8 * i + j by omega), mset_n (show (40 + i : Nat) ≠ 60 + 8 * i + j by omega), mset_n (show (10 + j : Nat) ≠ 60 + 8 * i + j by omega)] at ecd
        refine k_iast hx hb hG (show va_P D vwCl [(md (60 + 8 * i + j), .inl (cy 0, 12, .inl (upd (upd (upd (upd (upd (upd (upd (N (60 + 8 * i + j)) 11 1) 5 0) 6 0) 7 0) 9 ((N (60 + 8 * i + j)) 8)) 8 ((N (60 + 8 * i + j)) 3)) 4 (((N (60 + 8 * i + j)) 4) + 1))))] _ from by have h := hw.rw hi hj; rw [mset_s] at h; exact h) hS (MA.i (mk_rw hi hj)) (show vp_in (nI 0) 12 from vp_in_nI (by decide) (by decide)) dX7_see_123 (fun H1 locs hP1 z1 oq1 hS => ?_)
        rw [show Int32.toNatClampNeg 0 = 0 from clI 0 (by decide)] at hP1
        have hw := hw.setI hA (mk_rw hi hj) (ml_rw hi hj) hP1 oq1
        rw [mset_mset] at hw
        refine lv_aload hx hb dX7_see_124 (lv_at hl 1 rfl) ?_
        refine lv_iconst (v := 1) hx hb dX7_see_126 (by decide) ?_
        refine lv_aload_n hx hb dX7_see_127 rfl (lv_at hl 2 rfl) ?_
        refine lv_iload_n hx hb dX7_see_128 rfl (lv_at hl 3 rfl) ?_
        refine lv_iload_n hx hb dX7_see_129 rfl (lv_at hl 4 rfl) ?_
        refine kc_i (kr_V (As := [.int (nI i), .int (nI j)]) (rest := [.int 1, .ref (md (60 + 8 * i + j))]) hx hb hml hown hG (c_X7_trueOf l D cy md (mset N (60 + 8 * i + j) (upd (upd (upd (upd (upd (upd (upd (upd (N (60 + 8 * i + j)) 11 1) 5 0) 6 0) 7 0) 9 ((N (60 + 8 * i + j)) 8)) 8 ((N (60 + 8 * i + j)) 3)) 4 (((N (60 + 8 * i + j)) 4) + 1)) 0 cd)) co su i j hi hj) cf_X7_trueOf wM_X7_134 hw.o rfl hw ⟨rfl, rfl, by decide, by decide⟩ rfl rfl (Nat.le_of_ble_eq_true rfl) ⟨Nat.le_of_ble_eq_true rfl, Nat.le_of_ble_eq_true rfl⟩ dX7_see_130) ?_
        refine lv_topi (fun tr etr => ?_)
        rw [mset_n (show (40 + i : Nat) ≠ 60 + 8 * i + j by omega), mset_n (show (10 + j : Nat) ≠ 60 + 8 * i + j by omega)] at etr
        refine lv_bipush (v := 10) hx hb dX7_see_133 (by decide) ?_
        refine kc_i (kr_S (As := [.int tr, .int 10]) (rest := [.int 1, .ref (md (60 + 8 * i + j))]) hx hb hml hown hG (c_J9_floorMod_7cf53 l D cy tr 10 (by decide)) cf_J9_floorMod_7cf53 wM_X7_54 trivial ⟨rfl, rfl, by decide, by decide⟩ rfl rfl (Nat.le_of_ble_eq_true rfl) ⟨Nat.le_of_ble_eq_true rfl, Nat.le_of_ble_eq_true rfl⟩ dX7_see_135) ?_
        refine lv_topi (fun wv ewv0 => ?_)
        refine k_iast hx hb hG (show va_P D vwCl [(md (60 + 8 * i + j), .inl (cy 0, 12, .inl (upd (upd (upd (upd (upd (upd (upd (upd (N (60 + 8 * i + j)) 11 1) 5 0) 6 0) 7 0) 9 ((N (60 + 8 * i + j)) 8)) 8 ((N (60 + 8 * i + j)) 3)) 4 (((N (60 + 8 * i + j)) 4) + 1)) 0 cd)))] _ from by have h := hw.rw hi hj; rw [mset_s] at h; exact h) hS (MA.i (mk_rw hi hj)) (show vp_in (nI 1) 12 from vp_in_nI (by decide) (by decide)) dX7_see_138 (fun H1 locs hP1 z1 oq1 hS => ?_)
        rw [show Int32.toNatClampNeg 1 = 1 from clI 1 (by decide)] at hP1
        have hw := hw.setI hA (mk_rw hi hj) (ml_rw hi hj) hP1 oq1
        rw [mset_mset] at hw
        have ewv : wv = pFMod (mTrue (N (40 + i)) (N (10 + j))) 10 := by rw [ewv0, etr]
        refine lv_aload hx hb dX7_see_139 (lv_at hl 1 rfl) ?_
        refine lv_iconst (v := 2) hx hb dX7_see_141 (by decide) ?_
        refine lv_aload hx hb dX7_see_142 (lv_at hl 1 rfl) ?_
        refine lv_iconst (v := 0) hx hb dX7_see_144 (by decide) ?_
        refine k_iald (v := cd) hx hb hG (show va_P D vwCl [(md (60 + 8 * i + j), .inl (cy 0, 12, .inl (upd (upd (upd (upd (upd (upd (upd (upd (upd (N (60 + 8 * i + j)) 11 1) 5 0) 6 0) 7 0) 9 ((N (60 + 8 * i + j)) 8)) 8 ((N (60 + 8 * i + j)) 3)) 4 (((N (60 + 8 * i + j)) 4) + 1)) 0 cd) 1 wv)))] _ from by have h := hw.rw hi hj; rw [mset_s] at h; exact h) (show vp_in (nI 0) 12 from vp_in_nI (by decide) (by decide)) (congrArg (upd (upd (upd (upd (upd (upd (upd (upd (upd (N (60 + 8 * i + j)) 11 1) 5 0) 6 0) 7 0) 9 ((N (60 + 8 * i + j)) 8)) 8 ((N (60 + 8 * i + j)) 3)) 4 (((N (60 + 8 * i + j)) 4) + 1)) 0 cd) 1 wv) (clI 0 (by decide))) dX7_see_145 ?_
        refine lv_aload hx hb dX7_see_146 (lv_at hl 1 rfl) ?_
        refine lv_iconst (v := 1) hx hb dX7_see_148 (by decide) ?_
        refine k_iald (v := wv) hx hb hG (show va_P D vwCl [(md (60 + 8 * i + j), .inl (cy 0, 12, .inl (upd (upd (upd (upd (upd (upd (upd (upd (upd (N (60 + 8 * i + j)) 11 1) 5 0) 6 0) 7 0) 9 ((N (60 + 8 * i + j)) 8)) 8 ((N (60 + 8 * i + j)) 3)) 4 (((N (60 + 8 * i + j)) 4) + 1)) 0 cd) 1 wv)))] _ from by have h := hw.rw hi hj; rw [mset_s] at h; exact h) (show vp_in (nI 1) 12 from vp_in_nI (by decide) (by decide)) (congrArg (upd (upd (upd (upd (upd (upd (upd (upd (upd (N (60 + 8 * i + j)) 11 1) 5 0) 6 0) 7 0) 9 ((N (60 + 8 * i + j)) 8)) 8 ((N (60 + 8 * i + j)) 3)) 4 (((N (60 + 8 * i + j)) 4) + 1)) 0 cd) 1 wv) (clI 1 (by decide))) dX7_see_149 ?_
        refine lv_isub hx hb dX7_see_150 ?_
        refine lv_iconst (v := 5) hx hb dX7_see_151 (by decide) ?_
        refine lv_iadd hx hb dX7_see_152 ?_
        refine lv_bipush (v := 10) hx hb dX7_see_153 (by decide) ?_
        refine kc_i (kr_S (As := [.int ((cd - wv) + 5), .int 10]) (rest := [.int 2, .ref (md (60 + 8 * i + j))]) hx hb hml hown hG (c_J9_floorDiv_7cf53 l D cy ((cd - wv) + 5) 10 (by decide)) cf_J9_floorDiv_7cf53 wM_X7_137 trivial ⟨rfl, rfl, by decide, by decide⟩ rfl rfl (Nat.le_of_ble_eq_true rfl) ⟨Nat.le_of_ble_eq_true rfl, Nat.le_of_ble_eq_true rfl⟩ dX7_see_155) ?_
        refine lv_topi (fun ct ect => ?_)
        refine k_iast hx hb hG (show va_P D vwCl [(md (60 + 8 * i + j), .inl (cy 0, 12, .inl (upd (upd (upd (upd (upd (upd (upd (upd (upd (N (60 + 8 * i + j)) 11 1) 5 0) 6 0) 7 0) 9 ((N (60 + 8 * i + j)) 8)) 8 ((N (60 + 8 * i + j)) 3)) 4 (((N (60 + 8 * i + j)) 4) + 1)) 0 cd) 1 wv)))] _ from by have h := hw.rw hi hj; rw [mset_s] at h; exact h) hS (MA.i (mk_rw hi hj)) (show vp_in (nI 2) 12 from vp_in_nI (by decide) (by decide)) dX7_see_158 (fun H1 locs hP1 z1 oq1 hS => ?_)
        rw [show Int32.toNatClampNeg 2 = 2 from clI 2 (by decide)] at hP1
        have hw := hw.setI hA (mk_rw hi hj) (ml_rw hi hj) hP1 oq1
        rw [mset_mset] at hw
        refine lv_aload hx hb dX7_see_159 (lv_at hl 1 rfl) ?_
        refine lv_iconst (v := 3) hx hb dX7_see_161 (by decide) ?_
        refine lv_aload hx hb dX7_see_162 (lv_at hl 1 rfl) ?_
        refine lv_iconst (v := 0) hx hb dX7_see_164 (by decide) ?_
        refine k_iald (v := cd) hx hb hG (show va_P D vwCl [(md (60 + 8 * i + j), .inl (cy 0, 12, .inl (upd (upd (upd (upd (upd (upd (upd (upd (upd (upd (N (60 + 8 * i + j)) 11 1) 5 0) 6 0) 7 0) 9 ((N (60 + 8 * i + j)) 8)) 8 ((N (60 + 8 * i + j)) 3)) 4 (((N (60 + 8 * i + j)) 4) + 1)) 0 cd) 1 wv) 2 ct)))] _ from by have h := hw.rw hi hj; rw [mset_s] at h; exact h) (show vp_in (nI 0) 12 from vp_in_nI (by decide) (by decide)) (congrArg (upd (upd (upd (upd (upd (upd (upd (upd (upd (upd (N (60 + 8 * i + j)) 11 1) 5 0) 6 0) 7 0) 9 ((N (60 + 8 * i + j)) 8)) 8 ((N (60 + 8 * i + j)) 3)) 4 (((N (60 + 8 * i + j)) 4) + 1)) 0 cd) 1 wv) 2 ct) (clI 0 (by decide))) dX7_see_165 ?_
        refine lv_aload hx hb dX7_see_166 (lv_at hl 1 rfl) ?_
        refine lv_iconst (v := 1) hx hb dX7_see_168 (by decide) ?_
        refine k_iald (v := wv) hx hb hG (show va_P D vwCl [(md (60 + 8 * i + j), .inl (cy 0, 12, .inl (upd (upd (upd (upd (upd (upd (upd (upd (upd (upd (N (60 + 8 * i + j)) 11 1) 5 0) 6 0) 7 0) 9 ((N (60 + 8 * i + j)) 8)) 8 ((N (60 + 8 * i + j)) 3)) 4 (((N (60 + 8 * i + j)) 4) + 1)) 0 cd) 1 wv) 2 ct)))] _ from by have h := hw.rw hi hj; rw [mset_s] at h; exact h) (show vp_in (nI 1) 12 from vp_in_nI (by decide) (by decide)) (congrArg (upd (upd (upd (upd (upd (upd (upd (upd (upd (upd (N (60 + 8 * i + j)) 11 1) 5 0) 6 0) 7 0) 9 ((N (60 + 8 * i + j)) 8)) 8 ((N (60 + 8 * i + j)) 3)) 4 (((N (60 + 8 * i + j)) 4) + 1)) 0 cd) 1 wv) 2 ct) (clI 1 (by decide))) dX7_see_169 ?_
        refine lv_isub hx hb dX7_see_170 ?_
        refine lv_bipush (v := 10) hx hb dX7_see_171 (by decide) ?_
        refine lv_aload hx hb dX7_see_173 (lv_at hl 1 rfl) ?_
        refine lv_iconst (v := 2) hx hb dX7_see_175 (by decide) ?_
        refine k_iald (v := ct) hx hb hG (show va_P D vwCl [(md (60 + 8 * i + j), .inl (cy 0, 12, .inl (upd (upd (upd (upd (upd (upd (upd (upd (upd (upd (N (60 + 8 * i + j)) 11 1) 5 0) 6 0) 7 0) 9 ((N (60 + 8 * i + j)) 8)) 8 ((N (60 + 8 * i + j)) 3)) 4 (((N (60 + 8 * i + j)) 4) + 1)) 0 cd) 1 wv) 2 ct)))] _ from by have h := hw.rw hi hj; rw [mset_s] at h; exact h) (show vp_in (nI 2) 12 from vp_in_nI (by decide) (by decide)) (congrArg (upd (upd (upd (upd (upd (upd (upd (upd (upd (upd (N (60 + 8 * i + j)) 11 1) 5 0) 6 0) 7 0) 9 ((N (60 + 8 * i + j)) 8)) 8 ((N (60 + 8 * i + j)) 3)) 4 (((N (60 + 8 * i + j)) 4) + 1)) 0 cd) 1 wv) 2 ct) (clI 2 (by decide))) dX7_see_176 ?_
        refine lv_imul hx hb dX7_see_177 ?_
        refine lv_isub hx hb dX7_see_178 ?_
        refine lv_topi (fun lf elf0 => ?_)
        refine k_iast hx hb hG (show va_P D vwCl [(md (60 + 8 * i + j), .inl (cy 0, 12, .inl (upd (upd (upd (upd (upd (upd (upd (upd (upd (upd (N (60 + 8 * i + j)) 11 1) 5 0) 6 0) 7 0) 9 ((N (60 + 8 * i + j)) 8)) 8 ((N (60 + 8 * i + j)) 3)) 4 (((N (60 + 8 * i + j)) 4) + 1)) 0 cd) 1 wv) 2 ct)))] _ from by have h := hw.rw hi hj; rw [mset_s] at h; exact h) hS (MA.i (mk_rw hi hj)) (show vp_in (nI 3) 12 from vp_in_nI (by decide) (by decide)) dX7_see_179 (fun H1 locs hP1 z1 oq1 hS => ?_)
        rw [show Int32.toNatClampNeg 3 = 3 from clI 3 (by decide)] at hP1
        have hw := hw.setI hA (mk_rw hi hj) (ml_rw hi hj) hP1 oq1
        rw [mset_mset] at hw
        have elf : lf = mLf cd wv := by rw [elf0, ect]; rfl
        have ect : ct = mCt cd wv := ect
        refine lv_aload hx hb dX7_see_180 (lv_at hl 1 rfl) ?_
        refine lv_iconst (v := 5) hx hb dX7_see_182 (by decide) ?_
        refine lv_aload hx hb dX7_see_183 (lv_at hl 1 rfl) ?_
        refine lv_iconst (v := 4) hx hb dX7_see_185 (by decide) ?_
        refine k_iald (v := (((N (60 + 8 * i + j)) 4) + 1)) hx hb hG (show va_P D vwCl [(md (60 + 8 * i + j), .inl (cy 0, 12, .inl (upd (upd (upd (upd (upd (upd (upd (upd (upd (upd (upd (N (60 + 8 * i + j)) 11 1) 5 0) 6 0) 7 0) 9 ((N (60 + 8 * i + j)) 8)) 8 ((N (60 + 8 * i + j)) 3)) 4 (((N (60 + 8 * i + j)) 4) + 1)) 0 cd) 1 wv) 2 ct) 3 lf)))] _ from by have h := hw.rw hi hj; rw [mset_s] at h; exact h) (show vp_in (nI 4) 12 from vp_in_nI (by decide) (by decide)) (congrArg (upd (upd (upd (upd (upd (upd (upd (upd (upd (upd (upd (N (60 + 8 * i + j)) 11 1) 5 0) 6 0) 7 0) 9 ((N (60 + 8 * i + j)) 8)) 8 ((N (60 + 8 * i + j)) 3)) 4 (((N (60 + 8 * i + j)) 4) + 1)) 0 cd) 1 wv) 2 ct) 3 lf) (clI 4 (by decide))) dX7_see_186 ?_
        refine lv_iconst (v := 3) hx hb dX7_see_187 (by decide) ?_
        refine lv_icmp_lt (tgt := 236) hx hb dX7_see_188 (by decide) (fun c_188 => ?_) (fun c_188 => ?_)
        · refine lv_iconst (v := 0) hx hb dX7_see_236 (by decide) ?_
          refine k_iast hx hb hG (show va_P D vwCl [(md (60 + 8 * i + j), .inl (cy 0, 12, .inl (upd (upd (upd (upd (upd (upd (upd (upd (upd (upd (upd (N (60 + 8 * i + j)) 11 1) 5 0) 6 0) 7 0) 9 ((N (60 + 8 * i + j)) 8)) 8 ((N (60 + 8 * i + j)) 3)) 4 (((N (60 + 8 * i + j)) 4) + 1)) 0 cd) 1 wv) 2 ct) 3 lf)))] _ from by have h := hw.rw hi hj; rw [mset_s] at h; exact h) hS (MA.i (mk_rw hi hj)) (show vp_in (nI 5) 12 from vp_in_nI (by decide) (by decide)) dX7_see_237 (fun H1 locs hP1 z1 oq1 hS => ?_)
          rw [show Int32.toNatClampNeg 5 = 5 from clI 5 (by decide)] at hP1
          have hw := hw.setI hA (mk_rw hi hj) (ml_rw hi hj) hP1 oq1
          rw [mset_mset] at hw
          have ekp : mKp (N (60 + 8 * i + j)) nx = (((N (60 + 8 * i + j)) 4) + 1) := by unfold mKp; rw [if_neg c_11, if_pos c_20]
          have efx : mFx (mKp (N (60 + 8 * i + j)) nx) (mLf cd wv) (N (60 + 8 * i + j) 3) (N (60 + 8 * i + j) 8) = 0 := by rw [ekp, ← elf]; unfold mFx; rw [if_pos c_188]
          exact ke_uv hx hb hr hlk hS dX7_see_238 (by unfold mSee; rw [if_neg c_41, ← ecd, ← ewv]; unfold mSeeT; rw [efx, ekp, ← elf, ← ect]; exact hw)
        · refine lv_aload hx hb dX7_see_191 (lv_at hl 1 rfl) ?_
          refine lv_iconst (v := 3) hx hb dX7_see_193 (by decide) ?_
          refine k_iald (v := lf) hx hb hG (show va_P D vwCl [(md (60 + 8 * i + j), .inl (cy 0, 12, .inl (upd (upd (upd (upd (upd (upd (upd (upd (upd (upd (upd (N (60 + 8 * i + j)) 11 1) 5 0) 6 0) 7 0) 9 ((N (60 + 8 * i + j)) 8)) 8 ((N (60 + 8 * i + j)) 3)) 4 (((N (60 + 8 * i + j)) 4) + 1)) 0 cd) 1 wv) 2 ct) 3 lf)))] _ from by have h := hw.rw hi hj; rw [mset_s] at h; exact h) (show vp_in (nI 3) 12 from vp_in_nI (by decide) (by decide)) (congrArg (upd (upd (upd (upd (upd (upd (upd (upd (upd (upd (upd (N (60 + 8 * i + j)) 11 1) 5 0) 6 0) 7 0) 9 ((N (60 + 8 * i + j)) 8)) 8 ((N (60 + 8 * i + j)) 3)) 4 (((N (60 + 8 * i + j)) 4) + 1)) 0 cd) 1 wv) 2 ct) 3 lf) (clI 3 (by decide))) dX7_see_194 ?_
          refine lv_bipush (v := (-2)) hx hb dX7_see_195 (by decide) ?_
          refine lv_iconst (v := 2) hx hb dX7_see_197 (by decide) ?_
          refine kc_i (kr_S (As := [.int lf, .int (-2), .int 2]) (rest := [.int 5, .ref (md (60 + 8 * i + j))]) hx hb hml hown hG (c_X7_is l D cy lf (-2) 2) cf_X7_is wM_X7_86 trivial ⟨rfl, rfl, by decide, by decide⟩ rfl rfl (Nat.le_of_ble_eq_true rfl) ⟨Nat.le_of_ble_eq_true rfl, Nat.le_of_ble_eq_true rfl⟩ dX7_see_198) ?_
          refine lv_if_eq (tgt := 236) hx hb dX7_see_201 (by decide) (fun c_201 => ?_) (fun c_201 => ?_)
          · refine lv_iconst (v := 0) hx hb dX7_see_236 (by decide) ?_
            refine k_iast hx hb hG (show va_P D vwCl [(md (60 + 8 * i + j), .inl (cy 0, 12, .inl (upd (upd (upd (upd (upd (upd (upd (upd (upd (upd (upd (N (60 + 8 * i + j)) 11 1) 5 0) 6 0) 7 0) 9 ((N (60 + 8 * i + j)) 8)) 8 ((N (60 + 8 * i + j)) 3)) 4 (((N (60 + 8 * i + j)) 4) + 1)) 0 cd) 1 wv) 2 ct) 3 lf)))] _ from by have h := hw.rw hi hj; rw [mset_s] at h; exact h) hS (MA.i (mk_rw hi hj)) (show vp_in (nI 5) 12 from vp_in_nI (by decide) (by decide)) dX7_see_237 (fun H1 locs hP1 z1 oq1 hS => ?_)
            rw [show Int32.toNatClampNeg 5 = 5 from clI 5 (by decide)] at hP1
            have hw := hw.setI hA (mk_rw hi hj) (ml_rw hi hj) hP1 oq1
            rw [mset_mset] at hw
            have ekp : mKp (N (60 + 8 * i + j)) nx = (((N (60 + 8 * i + j)) 4) + 1) := by unfold mKp; rw [if_neg c_11, if_pos c_20]
            have efx : mFx (mKp (N (60 + 8 * i + j)) nx) (mLf cd wv) (N (60 + 8 * i + j) 3) (N (60 + 8 * i + j) 8) = 0 := by rw [ekp, ← elf]; unfold mFx; rw [if_neg c_188, if_pos c_201]
            exact ke_uv hx hb hr hlk hS dX7_see_238 (by unfold mSee; rw [if_neg c_41, ← ecd, ← ewv]; unfold mSeeT; rw [efx, ekp, ← elf, ← ect]; exact hw)
          · refine lv_aload hx hb dX7_see_204 (lv_at hl 1 rfl) ?_
            refine lv_bipush (v := 8) hx hb dX7_see_206 (by decide) ?_
            refine k_iald (v := ((N (60 + 8 * i + j)) 3)) hx hb hG (show va_P D vwCl [(md (60 + 8 * i + j), .inl (cy 0, 12, .inl (upd (upd (upd (upd (upd (upd (upd (upd (upd (upd (upd (N (60 + 8 * i + j)) 11 1) 5 0) 6 0) 7 0) 9 ((N (60 + 8 * i + j)) 8)) 8 ((N (60 + 8 * i + j)) 3)) 4 (((N (60 + 8 * i + j)) 4) + 1)) 0 cd) 1 wv) 2 ct) 3 lf)))] _ from by have h := hw.rw hi hj; rw [mset_s] at h; exact h) (show vp_in (nI 8) 12 from vp_in_nI (by decide) (by decide)) (congrArg (upd (upd (upd (upd (upd (upd (upd (upd (upd (upd (upd (N (60 + 8 * i + j)) 11 1) 5 0) 6 0) 7 0) 9 ((N (60 + 8 * i + j)) 8)) 8 ((N (60 + 8 * i + j)) 3)) 4 (((N (60 + 8 * i + j)) 4) + 1)) 0 cd) 1 wv) 2 ct) 3 lf) (clI 8 (by decide))) dX7_see_208 ?_
            refine lv_bipush (v := (-2)) hx hb dX7_see_209 (by decide) ?_
            refine lv_iconst (v := 2) hx hb dX7_see_211 (by decide) ?_
            refine kc_i (kr_S (As := [.int ((N (60 + 8 * i + j)) 3), .int (-2), .int 2]) (rest := [.int 5, .ref (md (60 + 8 * i + j))]) hx hb hml hown hG (c_X7_is l D cy ((N (60 + 8 * i + j)) 3) (-2) 2) cf_X7_is wM_X7_86 trivial ⟨rfl, rfl, by decide, by decide⟩ rfl rfl (Nat.le_of_ble_eq_true rfl) ⟨Nat.le_of_ble_eq_true rfl, Nat.le_of_ble_eq_true rfl⟩ dX7_see_212) ?_
            refine lv_if_eq (tgt := 236) hx hb dX7_see_215 (by decide) (fun c_215 => ?_) (fun c_215 => ?_)
            · refine lv_iconst (v := 0) hx hb dX7_see_236 (by decide) ?_
              refine k_iast hx hb hG (show va_P D vwCl [(md (60 + 8 * i + j), .inl (cy 0, 12, .inl (upd (upd (upd (upd (upd (upd (upd (upd (upd (upd (upd (N (60 + 8 * i + j)) 11 1) 5 0) 6 0) 7 0) 9 ((N (60 + 8 * i + j)) 8)) 8 ((N (60 + 8 * i + j)) 3)) 4 (((N (60 + 8 * i + j)) 4) + 1)) 0 cd) 1 wv) 2 ct) 3 lf)))] _ from by have h := hw.rw hi hj; rw [mset_s] at h; exact h) hS (MA.i (mk_rw hi hj)) (show vp_in (nI 5) 12 from vp_in_nI (by decide) (by decide)) dX7_see_237 (fun H1 locs hP1 z1 oq1 hS => ?_)
              rw [show Int32.toNatClampNeg 5 = 5 from clI 5 (by decide)] at hP1
              have hw := hw.setI hA (mk_rw hi hj) (ml_rw hi hj) hP1 oq1
              rw [mset_mset] at hw
              have ekp : mKp (N (60 + 8 * i + j)) nx = (((N (60 + 8 * i + j)) 4) + 1) := by unfold mKp; rw [if_neg c_11, if_pos c_20]
              have efx : mFx (mKp (N (60 + 8 * i + j)) nx) (mLf cd wv) (N (60 + 8 * i + j) 3) (N (60 + 8 * i + j) 8) = 0 := by rw [ekp, ← elf]; unfold mFx; rw [if_neg c_188, if_neg c_201, if_pos c_215]
              exact ke_uv hx hb hr hlk hS dX7_see_238 (by unfold mSee; rw [if_neg c_41, ← ecd, ← ewv]; unfold mSeeT; rw [efx, ekp, ← elf, ← ect]; exact hw)
            · refine lv_aload hx hb dX7_see_218 (lv_at hl 1 rfl) ?_
              refine lv_bipush (v := 9) hx hb dX7_see_220 (by decide) ?_
              refine k_iald (v := ((N (60 + 8 * i + j)) 8)) hx hb hG (show va_P D vwCl [(md (60 + 8 * i + j), .inl (cy 0, 12, .inl (upd (upd (upd (upd (upd (upd (upd (upd (upd (upd (upd (N (60 + 8 * i + j)) 11 1) 5 0) 6 0) 7 0) 9 ((N (60 + 8 * i + j)) 8)) 8 ((N (60 + 8 * i + j)) 3)) 4 (((N (60 + 8 * i + j)) 4) + 1)) 0 cd) 1 wv) 2 ct) 3 lf)))] _ from by have h := hw.rw hi hj; rw [mset_s] at h; exact h) (show vp_in (nI 9) 12 from vp_in_nI (by decide) (by decide)) (congrArg (upd (upd (upd (upd (upd (upd (upd (upd (upd (upd (upd (N (60 + 8 * i + j)) 11 1) 5 0) 6 0) 7 0) 9 ((N (60 + 8 * i + j)) 8)) 8 ((N (60 + 8 * i + j)) 3)) 4 (((N (60 + 8 * i + j)) 4) + 1)) 0 cd) 1 wv) 2 ct) 3 lf) (clI 9 (by decide))) dX7_see_222 ?_
              refine lv_bipush (v := (-2)) hx hb dX7_see_223 (by decide) ?_
              refine lv_iconst (v := 2) hx hb dX7_see_225 (by decide) ?_
              refine kc_i (kr_S (As := [.int ((N (60 + 8 * i + j)) 8), .int (-2), .int 2]) (rest := [.int 5, .ref (md (60 + 8 * i + j))]) hx hb hml hown hG (c_X7_is l D cy ((N (60 + 8 * i + j)) 8) (-2) 2) cf_X7_is wM_X7_86 trivial ⟨rfl, rfl, by decide, by decide⟩ rfl rfl (Nat.le_of_ble_eq_true rfl) ⟨Nat.le_of_ble_eq_true rfl, Nat.le_of_ble_eq_true rfl⟩ dX7_see_226) ?_
              refine lv_if_eq (tgt := 236) hx hb dX7_see_229 (by decide) (fun c_229 => ?_) (fun c_229 => ?_)
              · refine lv_iconst (v := 0) hx hb dX7_see_236 (by decide) ?_
                refine k_iast hx hb hG (show va_P D vwCl [(md (60 + 8 * i + j), .inl (cy 0, 12, .inl (upd (upd (upd (upd (upd (upd (upd (upd (upd (upd (upd (N (60 + 8 * i + j)) 11 1) 5 0) 6 0) 7 0) 9 ((N (60 + 8 * i + j)) 8)) 8 ((N (60 + 8 * i + j)) 3)) 4 (((N (60 + 8 * i + j)) 4) + 1)) 0 cd) 1 wv) 2 ct) 3 lf)))] _ from by have h := hw.rw hi hj; rw [mset_s] at h; exact h) hS (MA.i (mk_rw hi hj)) (show vp_in (nI 5) 12 from vp_in_nI (by decide) (by decide)) dX7_see_237 (fun H1 locs hP1 z1 oq1 hS => ?_)
                rw [show Int32.toNatClampNeg 5 = 5 from clI 5 (by decide)] at hP1
                have hw := hw.setI hA (mk_rw hi hj) (ml_rw hi hj) hP1 oq1
                rw [mset_mset] at hw
                have ekp : mKp (N (60 + 8 * i + j)) nx = (((N (60 + 8 * i + j)) 4) + 1) := by unfold mKp; rw [if_neg c_11, if_pos c_20]
                have efx : mFx (mKp (N (60 + 8 * i + j)) nx) (mLf cd wv) (N (60 + 8 * i + j) 3) (N (60 + 8 * i + j) 8) = 0 := by rw [ekp, ← elf]; unfold mFx; rw [if_neg c_188, if_neg c_201, if_neg c_215, if_pos c_229]
                exact ke_uv hx hb hr hlk hS dX7_see_238 (by unfold mSee; rw [if_neg c_41, ← ecd, ← ewv]; unfold mSeeT; rw [efx, ekp, ← elf, ← ect]; exact hw)
              · refine lv_iconst (v := 1) hx hb dX7_see_232 (by decide) ?_
                refine lv_goto (tgt := 237) hx hb dX7_see_233 (by decide) ?_
                refine k_iast hx hb hG (show va_P D vwCl [(md (60 + 8 * i + j), .inl (cy 0, 12, .inl (upd (upd (upd (upd (upd (upd (upd (upd (upd (upd (upd (N (60 + 8 * i + j)) 11 1) 5 0) 6 0) 7 0) 9 ((N (60 + 8 * i + j)) 8)) 8 ((N (60 + 8 * i + j)) 3)) 4 (((N (60 + 8 * i + j)) 4) + 1)) 0 cd) 1 wv) 2 ct) 3 lf)))] _ from by have h := hw.rw hi hj; rw [mset_s] at h; exact h) hS (MA.i (mk_rw hi hj)) (show vp_in (nI 5) 12 from vp_in_nI (by decide) (by decide)) dX7_see_237 (fun H1 locs hP1 z1 oq1 hS => ?_)
                rw [show Int32.toNatClampNeg 5 = 5 from clI 5 (by decide)] at hP1
                have hw := hw.setI hA (mk_rw hi hj) (ml_rw hi hj) hP1 oq1
                rw [mset_mset] at hw
                have ekp : mKp (N (60 + 8 * i + j)) nx = (((N (60 + 8 * i + j)) 4) + 1) := by unfold mKp; rw [if_neg c_11, if_pos c_20]
                have efx : mFx (mKp (N (60 + 8 * i + j)) nx) (mLf cd wv) (N (60 + 8 * i + j) 3) (N (60 + 8 * i + j) 8) = 1 := by rw [ekp, ← elf]; unfold mFx; rw [if_neg c_188, if_neg c_201, if_neg c_215, if_neg c_229]
                exact ke_uv hx hb hr hlk hS dX7_see_238 (by unfold mSee; rw [if_neg c_41, ← ecd, ← ewv]; unfold mSeeT; rw [efx, ekp, ← elf, ← ect]; exact hw)
