set_option maxHeartbeats 4000000 in
set_option maxRecDepth 100000 in
theorem c_X7_place (l : Launch) (D : va_G) (cy : Nat → ClassId) (md : Nat → Nat) (N : Nat → Nat → Int32) (co su : Int64) (hA : MI md) (ns : Nat) (hns8 : ns ≤ 8) (ens : N 0 8 = nI ns) (i : Nat) (hi : i < 3) (q : Nat) (hok : WOK N ns) (hq3 : 3 ≤ q) (hcn : q = wC N ns) (nx x y : Int32) : Met l yX7_place [.code yX7_place cX7_place 8 none] ({ frames := 6, cells := 0, slots := 0, locals := 150 } : Room) (PC D cy [.ref (md 0), .int (nI i), .int (nI q), .int nx, .int x, .int y] (fun H => MW D cy md N co su H)) (UQv (MA md) (fun H => MW D cy md (mPlN N ns i (nI q) nx x y co) ((mPlB N ns co).2.2.2) su H)) 0 0 (MA md) := by
  refine k_body (by decide +kernel) (Nat.le_of_ble_eq_true rfl) ?_
  intro p e s m below meth c ls hx hb hml hown hr hlk hmn hl hG hI
  have hml9 : c.maxLocals = 8 := hml.trans hl.1
  have hl : lv_has ls 8 [(0, .ref (md 0)), (1, .int (nI i)), (2, .int (nI q)), (3, .int nx), (4, .int x), (5, .int y)] := hl
  have hS : va_S (MA md) s.heap s.heap [] := va_S.rf
  have hw := hI
  refine lv_aload_n hx hb dX7_place_0 rfl (lv_at hl 0 rfl) ?_
  refine k_get (ci := 7) (C := RX7) (T := TX7) (N := 20) (v := .ref (md 4)) hx hb hown hG rfl kin_X7 hw.o 6 (by decide) wF_X7_20 rfl dX7_place_1 ?_
  refine lv_iload_n hx hb dX7_place_4 rfl (lv_at hl 1 rfl) ?_
  refine k_ald2 (v := (md (40 + i))) hx hb hG 5 rfl hw.a4 (vp_in_nI (n := i) hi (by decide)) (mo_rc hi) dX7_place_5 ?_
  refine lv_astore (lv' := [(6, .ref (md (40 + i))), (0, .ref (md 0)), (1, .int (nI i)), (2, .int (nI q)), (3, .int nx), (4, .int x), (5, .int y)]) hx hb dX7_place_6 hl (by decide) rfl (fun ls hl => ?_)
  have hml : c.maxLocals = ls.size := hml9.trans hl.1.symm
  refine lv_aload_n hx hb dX7_place_8 rfl (lv_at hl 1 rfl) ?_
  refine kc_uv (kr_V (As := []) (rest := []) hx hb hml hown hG (c_X7_solve l D cy md N co su hA ns hns8 ens (mAw_ne hok hns8 (by omega)) (mB0 N co)) cf_X7_solve wM_X7_179 hw.o rfl (show MW D cy md (mB N (mB0 N co)) co su _ from (mB_self N co).symm ▸ hw) ⟨rfl, rfl, by decide, by decide⟩ rfl rfl (Nat.le_of_ble_eq_true rfl) ⟨Nat.le_of_ble_eq_true rfl, Nat.le_of_ble_eq_true rfl⟩ dX7_place_9) hS (fun _ h => h) (fun H1 locs hp1 z1 oq1 hS => ?_)
  obtain ⟨B1, eB1⟩ : ∃ B1, B1 = mFind N ns (mB0 N co) := ⟨_, rfl⟩
  rw [← eB1] at hp1
  have hw : MW D cy md (mB N B1) B1.2.2.2 su H1 := hp1
  refine lv_aload hx hb dX7_place_12 (lv_at hl 0 rfl) ?_
  refine lv_bipush (v := 12) hx hb dX7_place_14 (by decide) ?_
  refine lv_aload_n hx hb dX7_place_16 rfl (lv_at hl 1 rfl) ?_
  refine k_get (ci := 7) (C := RX7) (T := TX7) (N := 20) (v := .int B1.1) hx hb hown hG rfl kin_X7 hw.o 15 (by decide) wF_X7_155 rfl dX7_place_17 ?_
  refine k_iast hx hb hG (hw.rc hi) hS (MA.i (mk_rc hi)) (show vp_in (nI 12) 22 from vp_in_nI (by decide) (by decide)) dX7_place_20 (fun H1 locs hP1 z1 oq1 hS => ?_)
  rw [show Int32.toNatClampNeg 12 = 12 from clI 12 (by decide)] at hP1
  have hw := hw.setI hA (mk_rc hi) (ml_rc hi) hP1 oq1
  refine lv_aload hx hb dX7_place_21 (lv_at hl 0 rfl) ?_
  refine lv_bipush (v := 13) hx hb dX7_place_23 (by decide) ?_
  refine lv_aload_n hx hb dX7_place_25 rfl (lv_at hl 1 rfl) ?_
  refine k_get (ci := 7) (C := RX7) (T := TX7) (N := 20) (v := .int B1.2.1) hx hb hown hG rfl kin_X7 (show va_P D vwCl [(md 0, .inr (7, [.int ((mB N B1 0) 0), .int ((mB N B1 0) 1), .int ((mB N B1 0) 2), .ref (md 1), .ref (md 2), .ref (md 3), .ref (md 4), .ref (md 5), .int ((mB N B1 0) 8), .int ((mB N B1 0) 9), .int ((mB N B1 0) 10), .ref (md 6), .ref (md 7), .ref (md 8), .ref (md 9), .int ((mB N B1 0) 15), .int ((mB N B1 0) 16), .int ((mB N B1 0) 17), .long B1.2.2.2, .long su]))] _ from by have h := hw.o; unfold mO at h; rw [mset_n (show (0 : Nat) ≠ 40 + i by omega)] at h; exact h) 16 (by decide) wF_X7_158 rfl dX7_place_26 ?_
  refine k_iast hx hb hG (show va_P D vwCl [(md (40 + i), .inl (cy 0, 22, .inl (upd (mB N B1 (40 + i)) 12 B1.1)))] _ from by have h := hw.rc hi; rw [mset_s] at h; exact h) hS (MA.i (mk_rc hi)) (show vp_in (nI 13) 22 from vp_in_nI (by decide) (by decide)) dX7_place_29 (fun H1 locs hP1 z1 oq1 hS => ?_)
  rw [show Int32.toNatClampNeg 13 = 13 from clI 13 (by decide)] at hP1
  have hw := hw.setI hA (mk_rc hi) (ml_rc hi) hP1 oq1
  rw [mset_mset] at hw
  refine lv_aload hx hb dX7_place_30 (lv_at hl 0 rfl) ?_
  refine lv_bipush (v := 14) hx hb dX7_place_32 (by decide) ?_
  refine lv_aload_n hx hb dX7_place_34 rfl (lv_at hl 1 rfl) ?_
  refine k_get (ci := 7) (C := RX7) (T := TX7) (N := 20) (v := .int B1.2.2.1) hx hb hown hG rfl kin_X7 (show va_P D vwCl [(md 0, .inr (7, [.int ((mB N B1 0) 0), .int ((mB N B1 0) 1), .int ((mB N B1 0) 2), .ref (md 1), .ref (md 2), .ref (md 3), .ref (md 4), .ref (md 5), .int ((mB N B1 0) 8), .int ((mB N B1 0) 9), .int ((mB N B1 0) 10), .ref (md 6), .ref (md 7), .ref (md 8), .ref (md 9), .int ((mB N B1 0) 15), .int ((mB N B1 0) 16), .int ((mB N B1 0) 17), .long B1.2.2.2, .long su]))] _ from by have h := hw.o; unfold mO at h; rw [mset_n (show (0 : Nat) ≠ 40 + i by omega)] at h; exact h) 17 (by decide) wF_X7_161 rfl dX7_place_35 ?_
  refine k_iast hx hb hG (show va_P D vwCl [(md (40 + i), .inl (cy 0, 22, .inl (upd (upd (mB N B1 (40 + i)) 12 B1.1) 13 B1.2.1)))] _ from by have h := hw.rc hi; rw [mset_s] at h; exact h) hS (MA.i (mk_rc hi)) (show vp_in (nI 14) 22 from vp_in_nI (by decide) (by decide)) dX7_place_38 (fun H1 locs hP1 z1 oq1 hS => ?_)
  rw [show Int32.toNatClampNeg 14 = 14 from clI 14 (by decide)] at hP1
  have hw := hw.setI hA (mk_rc hi) (ml_rc hi) hP1 oq1
  rw [mset_mset] at hw
  refine lv_aload hx hb dX7_place_39 (lv_at hl 0 rfl) ?_
  refine lv_bipush (v := 15) hx hb dX7_place_41 (by decide) ?_
  refine lv_aload_n hx hb dX7_place_43 rfl (lv_at hl 1 rfl) ?_
  refine k_get (ci := 7) (C := RX7) (T := TX7) (N := 20) (v := .long B1.2.2.2) hx hb hown hG rfl kin_X7 (show va_P D vwCl [(md 0, .inr (7, [.int ((mB N B1 0) 0), .int ((mB N B1 0) 1), .int ((mB N B1 0) 2), .ref (md 1), .ref (md 2), .ref (md 3), .ref (md 4), .ref (md 5), .int ((mB N B1 0) 8), .int ((mB N B1 0) 9), .int ((mB N B1 0) 10), .ref (md 6), .ref (md 7), .ref (md 8), .ref (md 9), .int ((mB N B1 0) 15), .int ((mB N B1 0) 16), .int ((mB N B1 0) 17), .long B1.2.2.2, .long su]))] _ from by have h := hw.o; unfold mO at h; rw [mset_n (show (0 : Nat) ≠ 40 + i by omega)] at h; exact h) 18 (by decide) wF_X7_144 rfl dX7_place_44 ?_
  refine lv_l2i (v := B1.2.2.2.toInt32) hx hb dX7_place_47 rfl ?_
  refine k_iast hx hb hG (show va_P D vwCl [(md (40 + i), .inl (cy 0, 22, .inl (upd (upd (upd (mB N B1 (40 + i)) 12 B1.1) 13 B1.2.1) 14 B1.2.2.1)))] _ from by have h := hw.rc hi; rw [mset_s] at h; exact h) hS (MA.i (mk_rc hi)) (show vp_in (nI 15) 22 from vp_in_nI (by decide) (by decide)) dX7_place_48 (fun H1 locs hP1 z1 oq1 hS => ?_)
  rw [show Int32.toNatClampNeg 15 = 15 from clI 15 (by decide)] at hP1
  have hw := hw.setI hA (mk_rc hi) (ml_rc hi) hP1 oq1
  rw [mset_mset] at hw
  refine lv_aload hx hb dX7_place_49 (lv_at hl 0 rfl) ?_
  refine lv_bipush (v := 16) hx hb dX7_place_51 (by decide) ?_
  refine lv_aload_n hx hb dX7_place_53 rfl (lv_at hl 1 rfl) ?_
  refine lv_iload_n hx hb dX7_place_54 rfl (lv_at hl 3 rfl) ?_
  obtain ⟨Q, eQ⟩ : ∃ Q, Q = mset N (40 + i) (upd (upd (upd (upd (mB N B1 (40 + i)) 12 B1.1) 13 B1.2.1) 14 B1.2.2.1) 15 B1.2.2.2.toInt32) := ⟨_, rfl⟩
  have hw : MW D cy md (mB Q B1) B1.2.2.2 su H1 := by rw [eQ, ← mB_set N B1 (show (40 + i : Nat) ≠ 0 by omega)]; exact hw
  have eQk : ∀ k, k < 40 → Q k = N k := fun k hk => by rw [eQ, mset_n (by omega)]
  have hokQ : WOK Q ns := fun j hj => by rw [eQk 9 (by decide)]; exact hok j hj
  have hcnQ : wC Q ns = wC N ns := wC_eq (fun j hj => by rw [eQk 9 (by decide)])
  have ensQ : Q 0 8 = nI ns := by rw [eQk 0 (by decide)]; exact ens
  refine kc_ui (kr_V (As := [.int (nI q)]) (rest := [.int 16, .ref (md (40 + i))]) hx hb hml hown hG (c_X7_level l D cy md Q co su hA ns hns8 ensQ (fun k hk h => mAw_ne (hokQ.less k) hns8 (by have := wC_less Q k ns; rw [if_pos hk, hcnQ] at this; omega)) B1 (nI q)) cf_X7_level wM_X7_199 (show va_P D vwCl [(md 0, .inr (7, _))] _ from hw.o) rfl hw ⟨rfl, rfl, by decide, by decide⟩ rfl rfl (Nat.le_of_ble_eq_true rfl) ⟨Nat.le_of_ble_eq_true rfl, Nat.le_of_ble_eq_true rfl⟩ dX7_place_55) hS (fun _ h => h) (fun r_55 H1 locs hp1 z1 oq1 hS => ?_)
  obtain ⟨e8, hw⟩ := hp1
  rw [mLevel_of (N := N) (fun k a b => eQk k (by omega))] at e8
  have hw : MW D cy md (mset (mB N B1) (40 + i) (upd (upd (upd (upd (mB N B1 (40 + i)) 12 B1.1) 13 B1.2.1) 14 B1.2.2.1) 15 B1.2.2.2.toInt32)) B1.2.2.2 su H1 := by rw [mB_set N B1 (show (40 + i : Nat) ≠ 0 by omega), ← eQ]; exact hw
  refine k_iast hx hb hG (show va_P D vwCl [(md (40 + i), .inl (cy 0, 22, .inl (upd (upd (upd (upd (mB N B1 (40 + i)) 12 B1.1) 13 B1.2.1) 14 B1.2.2.1) 15 B1.2.2.2.toInt32)))] _ from by have h := hw.rc hi; rw [mset_s] at h; exact h) hS (MA.i (mk_rc hi)) (show vp_in (nI 16) 22 from vp_in_nI (by decide) (by decide)) dX7_place_58 (fun H1 locs hP1 z1 oq1 hS => ?_)
  rw [show Int32.toNatClampNeg 16 = 16 from clI 16 (by decide)] at hP1
  have hw := hw.setI hA (mk_rc hi) (ml_rc hi) hP1 oq1
  rw [mset_mset] at hw
  refine lv_aload hx hb dX7_place_59 (lv_at hl 0 rfl) ?_
  refine lv_bipush (v := 17) hx hb dX7_place_61 (by decide) ?_
  refine lv_aload_n hx hb dX7_place_63 rfl (lv_at hl 1 rfl) ?_
  refine lv_iload_n hx hb dX7_place_64 rfl (lv_at hl 2 rfl) ?_
  refine lv_iload_n hx hb dX7_place_65 rfl (lv_at hl 3 rfl) ?_
  refine lv_aload hx hb dX7_place_66 (lv_at hl 0 rfl) ?_
  refine lv_bipush (v := 16) hx hb dX7_place_68 (by decide) ?_
  refine k_iald (v := r_55) hx hb hG (show va_P D vwCl [(md (40 + i), .inl (cy 0, 22, .inl (upd (upd (upd (upd (upd (mB N B1 (40 + i)) 12 B1.1) 13 B1.2.1) 14 B1.2.2.1) 15 B1.2.2.2.toInt32) 16 r_55)))] _ from by have h := hw.rc hi; rw [mset_s] at h; exact h) (show vp_in (nI 16) 22 from vp_in_nI (by decide) (by decide)) (congrArg (upd (upd (upd (upd (upd (mB N B1 (40 + i)) 12 B1.1) 13 B1.2.1) 14 B1.2.2.1) 15 B1.2.2.2.toInt32) 16 r_55) (clI 16 (by decide))) dX7_place_70 ?_
  refine kc_i (kr_V (As := [.int (nI i), .int (nI q), .int r_55]) (rest := [.int 17, .ref (md (40 + i))]) hx hb hml hown hG (c_X7_alarm l D cy md (mset (mB N B1) (40 + i) (upd (upd (upd (upd (upd (mB N B1 (40 + i)) 12 B1.1) 13 B1.2.1) 14 B1.2.2.1) 15 B1.2.2.2.toInt32) 16 r_55)) B1.2.2.2 su i hi (nI q) r_55) cf_X7_alarm wM_X7_202 hw.o rfl hw ⟨rfl, rfl, by decide, by decide⟩ rfl rfl (Nat.le_of_ble_eq_true rfl) ⟨Nat.le_of_ble_eq_true rfl, Nat.le_of_ble_eq_true rfl⟩ dX7_place_71) ?_
  refine lv_topi (fun al eal => ?_)
  rw [mset_s] at eal
  have eal : al = mAlarm (mB N B1 (40 + i)) B1.2.2.2 (nI q) r_55 := eal
  rw [show mB N B1 (40 + i) = N (40 + i) from mset_n (by omega)] at eal
  refine k_iast hx hb hG (show va_P D vwCl [(md (40 + i), .inl (cy 0, 22, .inl (upd (upd (upd (upd (upd (mB N B1 (40 + i)) 12 B1.1) 13 B1.2.1) 14 B1.2.2.1) 15 B1.2.2.2.toInt32) 16 r_55)))] _ from by have h := hw.rc hi; rw [mset_s] at h; exact h) hS (MA.i (mk_rc hi)) (show vp_in (nI 17) 22 from vp_in_nI (by decide) (by decide)) dX7_place_74 (fun H1 locs hP1 z1 oq1 hS => ?_)
  rw [show Int32.toNatClampNeg 17 = 17 from clI 17 (by decide)] at hP1
  have hw := hw.setI hA (mk_rc hi) (ml_rc hi) hP1 oq1
  rw [mset_mset] at hw
  refine lv_aload hx hb dX7_place_75 (lv_at hl 0 rfl) ?_
  refine lv_bipush (v := 17) hx hb dX7_place_77 (by decide) ?_
  refine k_iald (v := al) hx hb hG (show va_P D vwCl [(md (40 + i), .inl (cy 0, 22, .inl (upd (upd (upd (upd (upd (upd (mB N B1 (40 + i)) 12 B1.1) 13 B1.2.1) 14 B1.2.2.1) 15 B1.2.2.2.toInt32) 16 r_55) 17 al)))] _ from by have h := hw.rc hi; rw [mset_s] at h; exact h) (show vp_in (nI 17) 22 from vp_in_nI (by decide) (by decide)) (congrArg (upd (upd (upd (upd (upd (upd (mB N B1 (40 + i)) 12 B1.1) 13 B1.2.1) 14 B1.2.2.1) 15 B1.2.2.2.toInt32) 16 r_55) 17 al) (clI 17 (by decide))) dX7_place_79 ?_
  refine lv_if_ne (tgt := 112) hx hb dX7_place_80 (by decide) (fun c_80 => ?_) (fun c_80 => ?_)
  · refine lv_aload hx hb dX7_place_112 (lv_at hl 0 rfl) ?_
    refine lv_iconst (v := 0) hx hb dX7_place_114 (by decide) ?_
    refine k_iald (v := ((mB N B1 (40 + i)) 0)) hx hb hG (show va_P D vwCl [(md (40 + i), .inl (cy 0, 22, .inl (upd (upd (upd (upd (upd (upd (mB N B1 (40 + i)) 12 B1.1) 13 B1.2.1) 14 B1.2.2.1) 15 B1.2.2.2.toInt32) 16 r_55) 17 al)))] _ from by have h := hw.rc hi; rw [mset_s] at h; exact h) (show vp_in (nI 0) 22 from vp_in_nI (by decide) (by decide)) (congrArg (upd (upd (upd (upd (upd (upd (mB N B1 (40 + i)) 12 B1.1) 13 B1.2.1) 14 B1.2.2.1) 15 B1.2.2.2.toInt32) 16 r_55) 17 al) (clI 0 (by decide))) dX7_place_115 ?_
    refine lv_aload hx hb dX7_place_116 (lv_at hl 0 rfl) ?_
    refine lv_iconst (v := 1) hx hb dX7_place_118 (by decide) ?_
    refine k_iald (v := ((mB N B1 (40 + i)) 1)) hx hb hG (show va_P D vwCl [(md (40 + i), .inl (cy 0, 22, .inl (upd (upd (upd (upd (upd (upd (mB N B1 (40 + i)) 12 B1.1) 13 B1.2.1) 14 B1.2.2.1) 15 B1.2.2.2.toInt32) 16 r_55) 17 al)))] _ from by have h := hw.rc hi; rw [mset_s] at h; exact h) (show vp_in (nI 1) 22 from vp_in_nI (by decide) (by decide)) (congrArg (upd (upd (upd (upd (upd (upd (mB N B1 (40 + i)) 12 B1.1) 13 B1.2.1) 14 B1.2.2.1) 15 B1.2.2.2.toInt32) 16 r_55) 17 al) (clI 1 (by decide))) dX7_place_119 ?_
    refine lv_aload_n hx hb dX7_place_120 rfl (lv_at hl 1 rfl) ?_
    refine k_get (ci := 7) (C := RX7) (T := TX7) (N := 20) (v := .int B1.1) hx hb hown hG rfl kin_X7 (show va_P D vwCl [(md 0, .inr (7, [.int ((mB N B1 0) 0), .int ((mB N B1 0) 1), .int ((mB N B1 0) 2), .ref (md 1), .ref (md 2), .ref (md 3), .ref (md 4), .ref (md 5), .int ((mB N B1 0) 8), .int ((mB N B1 0) 9), .int ((mB N B1 0) 10), .ref (md 6), .ref (md 7), .ref (md 8), .ref (md 9), .int ((mB N B1 0) 15), .int ((mB N B1 0) 16), .int ((mB N B1 0) 17), .long B1.2.2.2, .long su]))] _ from by have h := hw.o; unfold mO at h; rw [mset_n (show (0 : Nat) ≠ 40 + i by omega)] at h; exact h) 15 (by decide) wF_X7_155 rfl dX7_place_121 ?_
    refine lv_aload_n hx hb dX7_place_124 rfl (lv_at hl 1 rfl) ?_
    refine k_get (ci := 7) (C := RX7) (T := TX7) (N := 20) (v := .int B1.2.1) hx hb hown hG rfl kin_X7 (show va_P D vwCl [(md 0, .inr (7, [.int ((mB N B1 0) 0), .int ((mB N B1 0) 1), .int ((mB N B1 0) 2), .ref (md 1), .ref (md 2), .ref (md 3), .ref (md 4), .ref (md 5), .int ((mB N B1 0) 8), .int ((mB N B1 0) 9), .int ((mB N B1 0) 10), .ref (md 6), .ref (md 7), .ref (md 8), .ref (md 9), .int ((mB N B1 0) 15), .int ((mB N B1 0) 16), .int ((mB N B1 0) 17), .long B1.2.2.2, .long su]))] _ from by have h := hw.o; unfold mO at h; rw [mset_n (show (0 : Nat) ≠ 40 + i by omega)] at h; exact h) 16 (by decide) wF_X7_158 rfl dX7_place_125 ?_
    refine kc_i (kr_S (As := [.int ((mB N B1 (40 + i)) 0), .int ((mB N B1 (40 + i)) 1), .int B1.1, .int B1.2.1]) (rest := []) hx hb hml hown hG (c_X7_range l D cy ((mB N B1 (40 + i)) 0) ((mB N B1 (40 + i)) 1) B1.1 B1.2.1) cf_X7_range wM_X7_118 trivial ⟨rfl, rfl, by decide, by decide⟩ rfl rfl (Nat.le_of_ble_eq_true rfl) ⟨Nat.le_of_ble_eq_true rfl, Nat.le_of_ble_eq_true rfl⟩ dX7_place_128) ?_
    refine lv_istore (lv' := [(7, .int (pRange ((mB N B1 (40 + i)) 0) ((mB N B1 (40 + i)) 1) B1.1 B1.2.1)), (6, .ref (md (40 + i))), (0, .ref (md 0)), (1, .int (nI i)), (2, .int (nI q)), (3, .int nx), (4, .int x), (5, .int y)]) hx hb dX7_place_131 hl (by decide) rfl (fun ls hl => ?_)
    have hml : c.maxLocals = ls.size := hml9.trans hl.1.symm
    refine lv_aload hx hb dX7_place_133 (lv_at hl 1 rfl) ?_
    refine lv_bipush (v := 20) hx hb dX7_place_135 (by decide) ?_
    refine lv_dup2_11 hx hb dX7_place_137 rfl rfl ?_
    refine k_iald (v := ((mB N B1 (40 + i)) 20)) hx hb hG (show va_P D vwCl [(md (40 + i), .inl (cy 0, 22, .inl (upd (upd (upd (upd (upd (upd (mB N B1 (40 + i)) 12 B1.1) 13 B1.2.1) 14 B1.2.2.1) 15 B1.2.2.2.toInt32) 16 r_55) 17 al)))] _ from by have h := hw.rc hi; rw [mset_s] at h; exact h) (show vp_in (nI 20) 22 from vp_in_nI (by decide) (by decide)) (congrArg (upd (upd (upd (upd (upd (upd (mB N B1 (40 + i)) 12 B1.1) 13 B1.2.1) 14 B1.2.2.1) 15 B1.2.2.2.toInt32) 16 r_55) 17 al) (clI 20 (by decide))) dX7_place_138 ?_
    refine lv_iconst (v := 1) hx hb dX7_place_139 (by decide) ?_
    refine lv_iadd hx hb dX7_place_140 ?_
    refine k_iast hx hb hG (show va_P D vwCl [(md (40 + i), .inl (cy 0, 22, .inl (upd (upd (upd (upd (upd (upd (mB N B1 (40 + i)) 12 B1.1) 13 B1.2.1) 14 B1.2.2.1) 15 B1.2.2.2.toInt32) 16 r_55) 17 al)))] _ from by have h := hw.rc hi; rw [mset_s] at h; exact h) hS (MA.i (mk_rc hi)) (show vp_in (nI 20) 22 from vp_in_nI (by decide) (by decide)) dX7_place_141 (fun H1 locs hP1 z1 oq1 hS => ?_)
    rw [show Int32.toNatClampNeg 20 = 20 from clI 20 (by decide)] at hP1
    have hw := hw.setI hA (mk_rc hi) (ml_rc hi) hP1 oq1
    rw [mset_mset] at hw
    refine lv_aload hx hb dX7_place_142 (lv_at hl 1 rfl) ?_
    refine lv_bipush (v := 21) hx hb dX7_place_144 (by decide) ?_
    refine lv_dup2_11 hx hb dX7_place_146 rfl rfl ?_
    refine k_iald (v := ((mB N B1 (40 + i)) 21)) hx hb hG (show va_P D vwCl [(md (40 + i), .inl (cy 0, 22, .inl (upd (upd (upd (upd (upd (upd (upd (mB N B1 (40 + i)) 12 B1.1) 13 B1.2.1) 14 B1.2.2.1) 15 B1.2.2.2.toInt32) 16 r_55) 17 al) 20 (((mB N B1 (40 + i)) 20) + 1))))] _ from by have h := hw.rc hi; rw [mset_s] at h; exact h) (show vp_in (nI 21) 22 from vp_in_nI (by decide) (by decide)) (congrArg (upd (upd (upd (upd (upd (upd (upd (mB N B1 (40 + i)) 12 B1.1) 13 B1.2.1) 14 B1.2.2.1) 15 B1.2.2.2.toInt32) 16 r_55) 17 al) 20 (((mB N B1 (40 + i)) 20) + 1)) (clI 21 (by decide))) dX7_place_147 ?_
    refine lv_iload hx hb dX7_place_148 (lv_at hl 0 rfl) ?_
    refine lv_iadd hx hb dX7_place_150 ?_
    refine k_iast hx hb hG (show va_P D vwCl [(md (40 + i), .inl (cy 0, 22, .inl (upd (upd (upd (upd (upd (upd (upd (mB N B1 (40 + i)) 12 B1.1) 13 B1.2.1) 14 B1.2.2.1) 15 B1.2.2.2.toInt32) 16 r_55) 17 al) 20 (((mB N B1 (40 + i)) 20) + 1))))] _ from by have h := hw.rc hi; rw [mset_s] at h; exact h) hS (MA.i (mk_rc hi)) (show vp_in (nI 21) 22 from vp_in_nI (by decide) (by decide)) dX7_place_151 (fun H1 locs hP1 z1 oq1 hS => ?_)
    rw [show Int32.toNatClampNeg 21 = 21 from clI 21 (by decide)] at hP1
    have hw := hw.setI hA (mk_rc hi) (ml_rc hi) hP1 oq1
    rw [mset_mset] at hw
    refine lv_aload hx hb dX7_place_152 (lv_at hl 1 rfl) ?_
    refine lv_bipush (v := 17) hx hb dX7_place_154 (by decide) ?_
    refine k_iald (v := al) hx hb hG (show va_P D vwCl [(md (40 + i), .inl (cy 0, 22, .inl (upd (upd (upd (upd (upd (upd (upd (upd (mB N B1 (40 + i)) 12 B1.1) 13 B1.2.1) 14 B1.2.2.1) 15 B1.2.2.2.toInt32) 16 r_55) 17 al) 20 (((mB N B1 (40 + i)) 20) + 1)) 21 (((mB N B1 (40 + i)) 21) + (pRange ((mB N B1 (40 + i)) 0) ((mB N B1 (40 + i)) 1) B1.1 B1.2.1)))))] _ from by have h := hw.rc hi; rw [mset_s] at h; exact h) (show vp_in (nI 17) 22 from vp_in_nI (by decide) (by decide)) (congrArg (upd (upd (upd (upd (upd (upd (upd (upd (mB N B1 (40 + i)) 12 B1.1) 13 B1.2.1) 14 B1.2.2.1) 15 B1.2.2.2.toInt32) 16 r_55) 17 al) 20 (((mB N B1 (40 + i)) 20) + 1)) 21 (((mB N B1 (40 + i)) 21) + (pRange ((mB N B1 (40 + i)) 0) ((mB N B1 (40 + i)) 1) B1.1 B1.2.1))) (clI 17 (by decide))) dX7_place_156 ?_
    refine lv_if_ne (tgt := 179) hx hb dX7_place_157 (by decide) (fun c_157 => ?_) (fun c_157 => ?_)
    · have eA : mPlA N ns i (nI q) nx x y co = al := by unfold mPlA mPlL mPlB mAl4; rw [← eB1, ← e8, ← eal, if_neg c_80]
      have eR : mPl9 (N (40 + i)) B1 r_55 al = (upd (upd (upd (upd (upd (upd (upd (upd (N (40 + i)) 12 B1.1) 13 B1.2.1) 14 B1.2.2.1) 15 B1.2.2.2.toInt32) 16 r_55) 17 al) 20 (((N (40 + i)) 20) + 1)) 21 (((N (40 + i)) 21) + (pRange ((N (40 + i)) 0) ((N (40 + i)) 1) B1.1 B1.2.1))) := by unfold mPl9 mPl6 mPl4; rw [if_neg c_157]
      have hw : MW D cy md (mPlN N ns i (nI q) nx x y co) B1.2.2.2 su H1 := by unfold mPlN; rw [eA]; unfold mPlL mPlB; rw [← eB1, ← e8, eR]; rw [show mB N B1 (40 + i) = N (40 + i) from mset_n (by omega)] at hw; exact hw
      exact ke_uv hx hb hr hlk hS dX7_place_179 (by unfold mPlB; rw [← eB1]; exact hw)
    · refine lv_iload hx hb dX7_place_160 (lv_at hl 0 rfl) ?_
      refine lv_aload hx hb dX7_place_162 (lv_at hl 1 rfl) ?_
      refine lv_bipush (v := 16) hx hb dX7_place_164 (by decide) ?_
      refine k_iald (v := r_55) hx hb hG (show va_P D vwCl [(md (40 + i), .inl (cy 0, 22, .inl (upd (upd (upd (upd (upd (upd (upd (upd (mB N B1 (40 + i)) 12 B1.1) 13 B1.2.1) 14 B1.2.2.1) 15 B1.2.2.2.toInt32) 16 r_55) 17 al) 20 (((mB N B1 (40 + i)) 20) + 1)) 21 (((mB N B1 (40 + i)) 21) + (pRange ((mB N B1 (40 + i)) 0) ((mB N B1 (40 + i)) 1) B1.1 B1.2.1)))))] _ from by have h := hw.rc hi; rw [mset_s] at h; exact h) (show vp_in (nI 16) 22 from vp_in_nI (by decide) (by decide)) (congrArg (upd (upd (upd (upd (upd (upd (upd (upd (mB N B1 (40 + i)) 12 B1.1) 13 B1.2.1) 14 B1.2.2.1) 15 B1.2.2.2.toInt32) 16 r_55) 17 al) 20 (((mB N B1 (40 + i)) 20) + 1)) 21 (((mB N B1 (40 + i)) 21) + (pRange ((mB N B1 (40 + i)) 0) ((mB N B1 (40 + i)) 1) B1.1 B1.2.1))) (clI 16 (by decide))) dX7_place_166 ?_
      refine lv_icmp_le (tgt := 179) hx hb dX7_place_167 (by decide) (fun c_167 => ?_) (fun c_167 => ?_)
      · rw [show mB N B1 (40 + i) = N (40 + i) from mset_n (by omega)] at c_167
        have eA : mPlA N ns i (nI q) nx x y co = al := by unfold mPlA mPlL mPlB mAl4; rw [← eB1, ← e8, ← eal, if_neg c_80]
        have eR : mPl9 (N (40 + i)) B1 r_55 al = (upd (upd (upd (upd (upd (upd (upd (upd (N (40 + i)) 12 B1.1) 13 B1.2.1) 14 B1.2.2.1) 15 B1.2.2.2.toInt32) 16 r_55) 17 al) 20 (((N (40 + i)) 20) + 1)) 21 (((N (40 + i)) 21) + (pRange ((N (40 + i)) 0) ((N (40 + i)) 1) B1.1 B1.2.1))) := by unfold mPl9 mPl6 mPl4; rw [if_pos c_157, if_pos c_167]
        have hw : MW D cy md (mPlN N ns i (nI q) nx x y co) B1.2.2.2 su H1 := by unfold mPlN; rw [eA]; unfold mPlL mPlB; rw [← eB1, ← e8, eR]; rw [show mB N B1 (40 + i) = N (40 + i) from mset_n (by omega)] at hw; exact hw
        exact ke_uv hx hb hr hlk hS dX7_place_179 (by unfold mPlB; rw [← eB1]; exact hw)
      · refine lv_aload hx hb dX7_place_170 (lv_at hl 1 rfl) ?_
        refine lv_bipush (v := 18) hx hb dX7_place_172 (by decide) ?_
        refine lv_dup2_11 hx hb dX7_place_174 rfl rfl ?_
        refine k_iald (v := ((mB N B1 (40 + i)) 18)) hx hb hG (show va_P D vwCl [(md (40 + i), .inl (cy 0, 22, .inl (upd (upd (upd (upd (upd (upd (upd (upd (mB N B1 (40 + i)) 12 B1.1) 13 B1.2.1) 14 B1.2.2.1) 15 B1.2.2.2.toInt32) 16 r_55) 17 al) 20 (((mB N B1 (40 + i)) 20) + 1)) 21 (((mB N B1 (40 + i)) 21) + (pRange ((mB N B1 (40 + i)) 0) ((mB N B1 (40 + i)) 1) B1.1 B1.2.1)))))] _ from by have h := hw.rc hi; rw [mset_s] at h; exact h) (show vp_in (nI 18) 22 from vp_in_nI (by decide) (by decide)) (congrArg (upd (upd (upd (upd (upd (upd (upd (upd (mB N B1 (40 + i)) 12 B1.1) 13 B1.2.1) 14 B1.2.2.1) 15 B1.2.2.2.toInt32) 16 r_55) 17 al) 20 (((mB N B1 (40 + i)) 20) + 1)) 21 (((mB N B1 (40 + i)) 21) + (pRange ((mB N B1 (40 + i)) 0) ((mB N B1 (40 + i)) 1) B1.1 B1.2.1))) (clI 18 (by decide))) dX7_place_175 ?_
        refine lv_iconst (v := 1) hx hb dX7_place_176 (by decide) ?_
        refine lv_iadd hx hb dX7_place_177 ?_
        refine k_iast hx hb hG (show va_P D vwCl [(md (40 + i), .inl (cy 0, 22, .inl (upd (upd (upd (upd (upd (upd (upd (upd (mB N B1 (40 + i)) 12 B1.1) 13 B1.2.1) 14 B1.2.2.1) 15 B1.2.2.2.toInt32) 16 r_55) 17 al) 20 (((mB N B1 (40 + i)) 20) + 1)) 21 (((mB N B1 (40 + i)) 21) + (pRange ((mB N B1 (40 + i)) 0) ((mB N B1 (40 + i)) 1) B1.1 B1.2.1)))))] _ from by have h := hw.rc hi; rw [mset_s] at h; exact h) hS (MA.i (mk_rc hi)) (show vp_in (nI 18) 22 from vp_in_nI (by decide) (by decide)) dX7_place_178 (fun H1 locs hP1 z1 oq1 hS => ?_)
        rw [show Int32.toNatClampNeg 18 = 18 from clI 18 (by decide)] at hP1
        have hw := hw.setI hA (mk_rc hi) (ml_rc hi) hP1 oq1
        rw [mset_mset] at hw
        rw [show mB N B1 (40 + i) = N (40 + i) from mset_n (by omega)] at c_167
        have eA : mPlA N ns i (nI q) nx x y co = al := by unfold mPlA mPlL mPlB mAl4; rw [← eB1, ← e8, ← eal, if_neg c_80]
        have eR : mPl9 (N (40 + i)) B1 r_55 al = (upd (upd (upd (upd (upd (upd (upd (upd (upd (N (40 + i)) 12 B1.1) 13 B1.2.1) 14 B1.2.2.1) 15 B1.2.2.2.toInt32) 16 r_55) 17 al) 20 (((N (40 + i)) 20) + 1)) 21 (((N (40 + i)) 21) + (pRange ((N (40 + i)) 0) ((N (40 + i)) 1) B1.1 B1.2.1))) 18 (((N (40 + i)) 18) + 1)) := by unfold mPl9 mPl6 mPl4; rw [if_pos c_157, if_neg c_167]
        have hw : MW D cy md (mPlN N ns i (nI q) nx x y co) B1.2.2.2 su H1 := by unfold mPlN; rw [eA]; unfold mPlL mPlB; rw [← eB1, ← e8, eR]; rw [show mB N B1 (40 + i) = N (40 + i) from mset_n (by omega)] at hw; exact hw
        exact ke_uv hx hb hr hlk hS dX7_place_179 (by unfold mPlB; rw [← eB1]; exact hw)
  · refine lv_iload_n hx hb dX7_place_83 rfl (lv_at hl 4 rfl) ?_
    refine lv_if_eq (tgt := 112) hx hb dX7_place_84 (by decide) (fun c_84 => ?_) (fun c_84 => ?_)
    · refine lv_aload hx hb dX7_place_112 (lv_at hl 0 rfl) ?_
      refine lv_iconst (v := 0) hx hb dX7_place_114 (by decide) ?_
      refine k_iald (v := ((mB N B1 (40 + i)) 0)) hx hb hG (show va_P D vwCl [(md (40 + i), .inl (cy 0, 22, .inl (upd (upd (upd (upd (upd (upd (mB N B1 (40 + i)) 12 B1.1) 13 B1.2.1) 14 B1.2.2.1) 15 B1.2.2.2.toInt32) 16 r_55) 17 al)))] _ from by have h := hw.rc hi; rw [mset_s] at h; exact h) (show vp_in (nI 0) 22 from vp_in_nI (by decide) (by decide)) (congrArg (upd (upd (upd (upd (upd (upd (mB N B1 (40 + i)) 12 B1.1) 13 B1.2.1) 14 B1.2.2.1) 15 B1.2.2.2.toInt32) 16 r_55) 17 al) (clI 0 (by decide))) dX7_place_115 ?_
      refine lv_aload hx hb dX7_place_116 (lv_at hl 0 rfl) ?_
      refine lv_iconst (v := 1) hx hb dX7_place_118 (by decide) ?_
      refine k_iald (v := ((mB N B1 (40 + i)) 1)) hx hb hG (show va_P D vwCl [(md (40 + i), .inl (cy 0, 22, .inl (upd (upd (upd (upd (upd (upd (mB N B1 (40 + i)) 12 B1.1) 13 B1.2.1) 14 B1.2.2.1) 15 B1.2.2.2.toInt32) 16 r_55) 17 al)))] _ from by have h := hw.rc hi; rw [mset_s] at h; exact h) (show vp_in (nI 1) 22 from vp_in_nI (by decide) (by decide)) (congrArg (upd (upd (upd (upd (upd (upd (mB N B1 (40 + i)) 12 B1.1) 13 B1.2.1) 14 B1.2.2.1) 15 B1.2.2.2.toInt32) 16 r_55) 17 al) (clI 1 (by decide))) dX7_place_119 ?_
      refine lv_aload_n hx hb dX7_place_120 rfl (lv_at hl 1 rfl) ?_
      refine k_get (ci := 7) (C := RX7) (T := TX7) (N := 20) (v := .int B1.1) hx hb hown hG rfl kin_X7 (show va_P D vwCl [(md 0, .inr (7, [.int ((mB N B1 0) 0), .int ((mB N B1 0) 1), .int ((mB N B1 0) 2), .ref (md 1), .ref (md 2), .ref (md 3), .ref (md 4), .ref (md 5), .int ((mB N B1 0) 8), .int ((mB N B1 0) 9), .int ((mB N B1 0) 10), .ref (md 6), .ref (md 7), .ref (md 8), .ref (md 9), .int ((mB N B1 0) 15), .int ((mB N B1 0) 16), .int ((mB N B1 0) 17), .long B1.2.2.2, .long su]))] _ from by have h := hw.o; unfold mO at h; rw [mset_n (show (0 : Nat) ≠ 40 + i by omega)] at h; exact h) 15 (by decide) wF_X7_155 rfl dX7_place_121 ?_
      refine lv_aload_n hx hb dX7_place_124 rfl (lv_at hl 1 rfl) ?_
      refine k_get (ci := 7) (C := RX7) (T := TX7) (N := 20) (v := .int B1.2.1) hx hb hown hG rfl kin_X7 (show va_P D vwCl [(md 0, .inr (7, [.int ((mB N B1 0) 0), .int ((mB N B1 0) 1), .int ((mB N B1 0) 2), .ref (md 1), .ref (md 2), .ref (md 3), .ref (md 4), .ref (md 5), .int ((mB N B1 0) 8), .int ((mB N B1 0) 9), .int ((mB N B1 0) 10), .ref (md 6), .ref (md 7), .ref (md 8), .ref (md 9), .int ((mB N B1 0) 15), .int ((mB N B1 0) 16), .int ((mB N B1 0) 17), .long B1.2.2.2, .long su]))] _ from by have h := hw.o; unfold mO at h; rw [mset_n (show (0 : Nat) ≠ 40 + i by omega)] at h; exact h) 16 (by decide) wF_X7_158 rfl dX7_place_125 ?_
      refine kc_i (kr_S (As := [.int ((mB N B1 (40 + i)) 0), .int ((mB N B1 (40 + i)) 1), .int B1.1, .int B1.2.1]) (rest := []) hx hb hml hown hG (c_X7_range l D cy ((mB N B1 (40 + i)) 0) ((mB N B1 (40 + i)) 1) B1.1 B1.2.1) cf_X7_range wM_X7_118 trivial ⟨rfl, rfl, by decide, by decide⟩ rfl rfl (Nat.le_of_ble_eq_true rfl) ⟨Nat.le_of_ble_eq_true rfl, Nat.le_of_ble_eq_true rfl⟩ dX7_place_128) ?_
      refine lv_istore (lv' := [(7, .int (pRange ((mB N B1 (40 + i)) 0) ((mB N B1 (40 + i)) 1) B1.1 B1.2.1)), (6, .ref (md (40 + i))), (0, .ref (md 0)), (1, .int (nI i)), (2, .int (nI q)), (3, .int nx), (4, .int x), (5, .int y)]) hx hb dX7_place_131 hl (by decide) rfl (fun ls hl => ?_)
      have hml : c.maxLocals = ls.size := hml9.trans hl.1.symm
      refine lv_aload hx hb dX7_place_133 (lv_at hl 1 rfl) ?_
      refine lv_bipush (v := 20) hx hb dX7_place_135 (by decide) ?_
      refine lv_dup2_11 hx hb dX7_place_137 rfl rfl ?_
      refine k_iald (v := ((mB N B1 (40 + i)) 20)) hx hb hG (show va_P D vwCl [(md (40 + i), .inl (cy 0, 22, .inl (upd (upd (upd (upd (upd (upd (mB N B1 (40 + i)) 12 B1.1) 13 B1.2.1) 14 B1.2.2.1) 15 B1.2.2.2.toInt32) 16 r_55) 17 al)))] _ from by have h := hw.rc hi; rw [mset_s] at h; exact h) (show vp_in (nI 20) 22 from vp_in_nI (by decide) (by decide)) (congrArg (upd (upd (upd (upd (upd (upd (mB N B1 (40 + i)) 12 B1.1) 13 B1.2.1) 14 B1.2.2.1) 15 B1.2.2.2.toInt32) 16 r_55) 17 al) (clI 20 (by decide))) dX7_place_138 ?_
      refine lv_iconst (v := 1) hx hb dX7_place_139 (by decide) ?_
      refine lv_iadd hx hb dX7_place_140 ?_
      refine k_iast hx hb hG (show va_P D vwCl [(md (40 + i), .inl (cy 0, 22, .inl (upd (upd (upd (upd (upd (upd (mB N B1 (40 + i)) 12 B1.1) 13 B1.2.1) 14 B1.2.2.1) 15 B1.2.2.2.toInt32) 16 r_55) 17 al)))] _ from by have h := hw.rc hi; rw [mset_s] at h; exact h) hS (MA.i (mk_rc hi)) (show vp_in (nI 20) 22 from vp_in_nI (by decide) (by decide)) dX7_place_141 (fun H1 locs hP1 z1 oq1 hS => ?_)
      rw [show Int32.toNatClampNeg 20 = 20 from clI 20 (by decide)] at hP1
      have hw := hw.setI hA (mk_rc hi) (ml_rc hi) hP1 oq1
      rw [mset_mset] at hw
      refine lv_aload hx hb dX7_place_142 (lv_at hl 1 rfl) ?_
      refine lv_bipush (v := 21) hx hb dX7_place_144 (by decide) ?_
      refine lv_dup2_11 hx hb dX7_place_146 rfl rfl ?_
      refine k_iald (v := ((mB N B1 (40 + i)) 21)) hx hb hG (show va_P D vwCl [(md (40 + i), .inl (cy 0, 22, .inl (upd (upd (upd (upd (upd (upd (upd (mB N B1 (40 + i)) 12 B1.1) 13 B1.2.1) 14 B1.2.2.1) 15 B1.2.2.2.toInt32) 16 r_55) 17 al) 20 (((mB N B1 (40 + i)) 20) + 1))))] _ from by have h := hw.rc hi; rw [mset_s] at h; exact h) (show vp_in (nI 21) 22 from vp_in_nI (by decide) (by decide)) (congrArg (upd (upd (upd (upd (upd (upd (upd (mB N B1 (40 + i)) 12 B1.1) 13 B1.2.1) 14 B1.2.2.1) 15 B1.2.2.2.toInt32) 16 r_55) 17 al) 20 (((mB N B1 (40 + i)) 20) + 1)) (clI 21 (by decide))) dX7_place_147 ?_
      refine lv_iload hx hb dX7_place_148 (lv_at hl 0 rfl) ?_
      refine lv_iadd hx hb dX7_place_150 ?_
      refine k_iast hx hb hG (show va_P D vwCl [(md (40 + i), .inl (cy 0, 22, .inl (upd (upd (upd (upd (upd (upd (upd (mB N B1 (40 + i)) 12 B1.1) 13 B1.2.1) 14 B1.2.2.1) 15 B1.2.2.2.toInt32) 16 r_55) 17 al) 20 (((mB N B1 (40 + i)) 20) + 1))))] _ from by have h := hw.rc hi; rw [mset_s] at h; exact h) hS (MA.i (mk_rc hi)) (show vp_in (nI 21) 22 from vp_in_nI (by decide) (by decide)) dX7_place_151 (fun H1 locs hP1 z1 oq1 hS => ?_)
      rw [show Int32.toNatClampNeg 21 = 21 from clI 21 (by decide)] at hP1
      have hw := hw.setI hA (mk_rc hi) (ml_rc hi) hP1 oq1
      rw [mset_mset] at hw
      refine lv_aload hx hb dX7_place_152 (lv_at hl 1 rfl) ?_
      refine lv_bipush (v := 17) hx hb dX7_place_154 (by decide) ?_
      refine k_iald (v := al) hx hb hG (show va_P D vwCl [(md (40 + i), .inl (cy 0, 22, .inl (upd (upd (upd (upd (upd (upd (upd (upd (mB N B1 (40 + i)) 12 B1.1) 13 B1.2.1) 14 B1.2.2.1) 15 B1.2.2.2.toInt32) 16 r_55) 17 al) 20 (((mB N B1 (40 + i)) 20) + 1)) 21 (((mB N B1 (40 + i)) 21) + (pRange ((mB N B1 (40 + i)) 0) ((mB N B1 (40 + i)) 1) B1.1 B1.2.1)))))] _ from by have h := hw.rc hi; rw [mset_s] at h; exact h) (show vp_in (nI 17) 22 from vp_in_nI (by decide) (by decide)) (congrArg (upd (upd (upd (upd (upd (upd (upd (upd (mB N B1 (40 + i)) 12 B1.1) 13 B1.2.1) 14 B1.2.2.1) 15 B1.2.2.2.toInt32) 16 r_55) 17 al) 20 (((mB N B1 (40 + i)) 20) + 1)) 21 (((mB N B1 (40 + i)) 21) + (pRange ((mB N B1 (40 + i)) 0) ((mB N B1 (40 + i)) 1) B1.1 B1.2.1))) (clI 17 (by decide))) dX7_place_156 ?_
      refine lv_if_ne (tgt := 179) hx hb dX7_place_157 (by decide) (fun c_157 => ?_) (fun c_157 => ?_)
      · have eA : mPlA N ns i (nI q) nx x y co = al := by unfold mPlA mPlL mPlB mAl4; rw [← eB1, ← e8, ← eal, if_pos c_80, if_pos c_84]
        have eR : mPl9 (N (40 + i)) B1 r_55 al = (upd (upd (upd (upd (upd (upd (upd (upd (N (40 + i)) 12 B1.1) 13 B1.2.1) 14 B1.2.2.1) 15 B1.2.2.2.toInt32) 16 r_55) 17 al) 20 (((N (40 + i)) 20) + 1)) 21 (((N (40 + i)) 21) + (pRange ((N (40 + i)) 0) ((N (40 + i)) 1) B1.1 B1.2.1))) := by unfold mPl9 mPl6 mPl4; rw [if_neg c_157]
        have hw : MW D cy md (mPlN N ns i (nI q) nx x y co) B1.2.2.2 su H1 := by unfold mPlN; rw [eA]; unfold mPlL mPlB; rw [← eB1, ← e8, eR]; rw [show mB N B1 (40 + i) = N (40 + i) from mset_n (by omega)] at hw; exact hw
        exact ke_uv hx hb hr hlk hS dX7_place_179 (by unfold mPlB; rw [← eB1]; exact hw)
      · refine lv_iload hx hb dX7_place_160 (lv_at hl 0 rfl) ?_
        refine lv_aload hx hb dX7_place_162 (lv_at hl 1 rfl) ?_
        refine lv_bipush (v := 16) hx hb dX7_place_164 (by decide) ?_
        refine k_iald (v := r_55) hx hb hG (show va_P D vwCl [(md (40 + i), .inl (cy 0, 22, .inl (upd (upd (upd (upd (upd (upd (upd (upd (mB N B1 (40 + i)) 12 B1.1) 13 B1.2.1) 14 B1.2.2.1) 15 B1.2.2.2.toInt32) 16 r_55) 17 al) 20 (((mB N B1 (40 + i)) 20) + 1)) 21 (((mB N B1 (40 + i)) 21) + (pRange ((mB N B1 (40 + i)) 0) ((mB N B1 (40 + i)) 1) B1.1 B1.2.1)))))] _ from by have h := hw.rc hi; rw [mset_s] at h; exact h) (show vp_in (nI 16) 22 from vp_in_nI (by decide) (by decide)) (congrArg (upd (upd (upd (upd (upd (upd (upd (upd (mB N B1 (40 + i)) 12 B1.1) 13 B1.2.1) 14 B1.2.2.1) 15 B1.2.2.2.toInt32) 16 r_55) 17 al) 20 (((mB N B1 (40 + i)) 20) + 1)) 21 (((mB N B1 (40 + i)) 21) + (pRange ((mB N B1 (40 + i)) 0) ((mB N B1 (40 + i)) 1) B1.1 B1.2.1))) (clI 16 (by decide))) dX7_place_166 ?_
        refine lv_icmp_le (tgt := 179) hx hb dX7_place_167 (by decide) (fun c_167 => ?_) (fun c_167 => ?_)
        · rw [show mB N B1 (40 + i) = N (40 + i) from mset_n (by omega)] at c_167
          have eA : mPlA N ns i (nI q) nx x y co = al := by unfold mPlA mPlL mPlB mAl4; rw [← eB1, ← e8, ← eal, if_pos c_80, if_pos c_84]
          have eR : mPl9 (N (40 + i)) B1 r_55 al = (upd (upd (upd (upd (upd (upd (upd (upd (N (40 + i)) 12 B1.1) 13 B1.2.1) 14 B1.2.2.1) 15 B1.2.2.2.toInt32) 16 r_55) 17 al) 20 (((N (40 + i)) 20) + 1)) 21 (((N (40 + i)) 21) + (pRange ((N (40 + i)) 0) ((N (40 + i)) 1) B1.1 B1.2.1))) := by unfold mPl9 mPl6 mPl4; rw [if_pos c_157, if_pos c_167]
          have hw : MW D cy md (mPlN N ns i (nI q) nx x y co) B1.2.2.2 su H1 := by unfold mPlN; rw [eA]; unfold mPlL mPlB; rw [← eB1, ← e8, eR]; rw [show mB N B1 (40 + i) = N (40 + i) from mset_n (by omega)] at hw; exact hw
          exact ke_uv hx hb hr hlk hS dX7_place_179 (by unfold mPlB; rw [← eB1]; exact hw)
        · refine lv_aload hx hb dX7_place_170 (lv_at hl 1 rfl) ?_
          refine lv_bipush (v := 18) hx hb dX7_place_172 (by decide) ?_
          refine lv_dup2_11 hx hb dX7_place_174 rfl rfl ?_
          refine k_iald (v := ((mB N B1 (40 + i)) 18)) hx hb hG (show va_P D vwCl [(md (40 + i), .inl (cy 0, 22, .inl (upd (upd (upd (upd (upd (upd (upd (upd (mB N B1 (40 + i)) 12 B1.1) 13 B1.2.1) 14 B1.2.2.1) 15 B1.2.2.2.toInt32) 16 r_55) 17 al) 20 (((mB N B1 (40 + i)) 20) + 1)) 21 (((mB N B1 (40 + i)) 21) + (pRange ((mB N B1 (40 + i)) 0) ((mB N B1 (40 + i)) 1) B1.1 B1.2.1)))))] _ from by have h := hw.rc hi; rw [mset_s] at h; exact h) (show vp_in (nI 18) 22 from vp_in_nI (by decide) (by decide)) (congrArg (upd (upd (upd (upd (upd (upd (upd (upd (mB N B1 (40 + i)) 12 B1.1) 13 B1.2.1) 14 B1.2.2.1) 15 B1.2.2.2.toInt32) 16 r_55) 17 al) 20 (((mB N B1 (40 + i)) 20) + 1)) 21 (((mB N B1 (40 + i)) 21) + (pRange ((mB N B1 (40 + i)) 0) ((mB N B1 (40 + i)) 1) B1.1 B1.2.1))) (clI 18 (by decide))) dX7_place_175 ?_
          refine lv_iconst (v := 1) hx hb dX7_place_176 (by decide) ?_
          refine lv_iadd hx hb dX7_place_177 ?_
          refine k_iast hx hb hG (show va_P D vwCl [(md (40 + i), .inl (cy 0, 22, .inl (upd (upd (upd (upd (upd (upd (upd (upd (mB N B1 (40 + i)) 12 B1.1) 13 B1.2.1) 14 B1.2.2.1) 15 B1.2.2.2.toInt32) 16 r_55) 17 al) 20 (((mB N B1 (40 + i)) 20) + 1)) 21 (((mB N B1 (40 + i)) 21) + (pRange ((mB N B1 (40 + i)) 0) ((mB N B1 (40 + i)) 1) B1.1 B1.2.1)))))] _ from by have h := hw.rc hi; rw [mset_s] at h; exact h) hS (MA.i (mk_rc hi)) (show vp_in (nI 18) 22 from vp_in_nI (by decide) (by decide)) dX7_place_178 (fun H1 locs hP1 z1 oq1 hS => ?_)
          rw [show Int32.toNatClampNeg 18 = 18 from clI 18 (by decide)] at hP1
          have hw := hw.setI hA (mk_rc hi) (ml_rc hi) hP1 oq1
          rw [mset_mset] at hw
          rw [show mB N B1 (40 + i) = N (40 + i) from mset_n (by omega)] at c_167
          have eA : mPlA N ns i (nI q) nx x y co = al := by unfold mPlA mPlL mPlB mAl4; rw [← eB1, ← e8, ← eal, if_pos c_80, if_pos c_84]
          have eR : mPl9 (N (40 + i)) B1 r_55 al = (upd (upd (upd (upd (upd (upd (upd (upd (upd (N (40 + i)) 12 B1.1) 13 B1.2.1) 14 B1.2.2.1) 15 B1.2.2.2.toInt32) 16 r_55) 17 al) 20 (((N (40 + i)) 20) + 1)) 21 (((N (40 + i)) 21) + (pRange ((N (40 + i)) 0) ((N (40 + i)) 1) B1.1 B1.2.1))) 18 (((N (40 + i)) 18) + 1)) := by unfold mPl9 mPl6 mPl4; rw [if_pos c_157, if_neg c_167]
          have hw : MW D cy md (mPlN N ns i (nI q) nx x y co) B1.2.2.2 su H1 := by unfold mPlN; rw [eA]; unfold mPlL mPlB; rw [← eB1, ← e8, eR]; rw [show mB N B1 (40 + i) = N (40 + i) from mset_n (by omega)] at hw; exact hw
          exact ke_uv hx hb hr hlk hS dX7_place_179 (by unfold mPlB; rw [← eB1]; exact hw)
    · refine lv_iload hx hb dX7_place_87 (lv_at hl 5 rfl) ?_
      refine lv_iload hx hb dX7_place_89 (lv_at hl 6 rfl) ?_
      refine lv_aload_n hx hb dX7_place_91 rfl (lv_at hl 1 rfl) ?_
      refine k_get (ci := 7) (C := RX7) (T := TX7) (N := 20) (v := .int B1.1) hx hb hown hG rfl kin_X7 (show va_P D vwCl [(md 0, .inr (7, [.int ((mB N B1 0) 0), .int ((mB N B1 0) 1), .int ((mB N B1 0) 2), .ref (md 1), .ref (md 2), .ref (md 3), .ref (md 4), .ref (md 5), .int ((mB N B1 0) 8), .int ((mB N B1 0) 9), .int ((mB N B1 0) 10), .ref (md 6), .ref (md 7), .ref (md 8), .ref (md 9), .int ((mB N B1 0) 15), .int ((mB N B1 0) 16), .int ((mB N B1 0) 17), .long B1.2.2.2, .long su]))] _ from by have h := hw.o; unfold mO at h; rw [mset_n (show (0 : Nat) ≠ 40 + i by omega)] at h; exact h) 15 (by decide) wF_X7_155 rfl dX7_place_92 ?_
      refine lv_aload_n hx hb dX7_place_95 rfl (lv_at hl 1 rfl) ?_
      refine k_get (ci := 7) (C := RX7) (T := TX7) (N := 20) (v := .int B1.2.1) hx hb hown hG rfl kin_X7 (show va_P D vwCl [(md 0, .inr (7, [.int ((mB N B1 0) 0), .int ((mB N B1 0) 1), .int ((mB N B1 0) 2), .ref (md 1), .ref (md 2), .ref (md 3), .ref (md 4), .ref (md 5), .int ((mB N B1 0) 8), .int ((mB N B1 0) 9), .int ((mB N B1 0) 10), .ref (md 6), .ref (md 7), .ref (md 8), .ref (md 9), .int ((mB N B1 0) 15), .int ((mB N B1 0) 16), .int ((mB N B1 0) 17), .long B1.2.2.2, .long su]))] _ from by have h := hw.o; unfold mO at h; rw [mset_n (show (0 : Nat) ≠ 40 + i by omega)] at h; exact h) 16 (by decide) wF_X7_158 rfl dX7_place_96 ?_
      refine kc_i (kr_S (As := [.int x, .int y, .int B1.1, .int B1.2.1]) (rest := []) hx hb hml hown hG (c_X7_range l D cy x y B1.1 B1.2.1) cf_X7_range wM_X7_118 trivial ⟨rfl, rfl, by decide, by decide⟩ rfl rfl (Nat.le_of_ble_eq_true rfl) ⟨Nat.le_of_ble_eq_true rfl, Nat.le_of_ble_eq_true rfl⟩ dX7_place_99) ?_
      refine lv_iconst (v := 4) hx hb dX7_place_102 (by decide) ?_
      refine lv_icmp_le (tgt := 112) hx hb dX7_place_103 (by decide) (fun c_103 => ?_) (fun c_103 => ?_)
      · refine lv_aload hx hb dX7_place_112 (lv_at hl 0 rfl) ?_
        refine lv_iconst (v := 0) hx hb dX7_place_114 (by decide) ?_
        refine k_iald (v := ((mB N B1 (40 + i)) 0)) hx hb hG (show va_P D vwCl [(md (40 + i), .inl (cy 0, 22, .inl (upd (upd (upd (upd (upd (upd (mB N B1 (40 + i)) 12 B1.1) 13 B1.2.1) 14 B1.2.2.1) 15 B1.2.2.2.toInt32) 16 r_55) 17 al)))] _ from by have h := hw.rc hi; rw [mset_s] at h; exact h) (show vp_in (nI 0) 22 from vp_in_nI (by decide) (by decide)) (congrArg (upd (upd (upd (upd (upd (upd (mB N B1 (40 + i)) 12 B1.1) 13 B1.2.1) 14 B1.2.2.1) 15 B1.2.2.2.toInt32) 16 r_55) 17 al) (clI 0 (by decide))) dX7_place_115 ?_
        refine lv_aload hx hb dX7_place_116 (lv_at hl 0 rfl) ?_
        refine lv_iconst (v := 1) hx hb dX7_place_118 (by decide) ?_
        refine k_iald (v := ((mB N B1 (40 + i)) 1)) hx hb hG (show va_P D vwCl [(md (40 + i), .inl (cy 0, 22, .inl (upd (upd (upd (upd (upd (upd (mB N B1 (40 + i)) 12 B1.1) 13 B1.2.1) 14 B1.2.2.1) 15 B1.2.2.2.toInt32) 16 r_55) 17 al)))] _ from by have h := hw.rc hi; rw [mset_s] at h; exact h) (show vp_in (nI 1) 22 from vp_in_nI (by decide) (by decide)) (congrArg (upd (upd (upd (upd (upd (upd (mB N B1 (40 + i)) 12 B1.1) 13 B1.2.1) 14 B1.2.2.1) 15 B1.2.2.2.toInt32) 16 r_55) 17 al) (clI 1 (by decide))) dX7_place_119 ?_
        refine lv_aload_n hx hb dX7_place_120 rfl (lv_at hl 1 rfl) ?_
        refine k_get (ci := 7) (C := RX7) (T := TX7) (N := 20) (v := .int B1.1) hx hb hown hG rfl kin_X7 (show va_P D vwCl [(md 0, .inr (7, [.int ((mB N B1 0) 0), .int ((mB N B1 0) 1), .int ((mB N B1 0) 2), .ref (md 1), .ref (md 2), .ref (md 3), .ref (md 4), .ref (md 5), .int ((mB N B1 0) 8), .int ((mB N B1 0) 9), .int ((mB N B1 0) 10), .ref (md 6), .ref (md 7), .ref (md 8), .ref (md 9), .int ((mB N B1 0) 15), .int ((mB N B1 0) 16), .int ((mB N B1 0) 17), .long B1.2.2.2, .long su]))] _ from by have h := hw.o; unfold mO at h; rw [mset_n (show (0 : Nat) ≠ 40 + i by omega)] at h; exact h) 15 (by decide) wF_X7_155 rfl dX7_place_121 ?_
        refine lv_aload_n hx hb dX7_place_124 rfl (lv_at hl 1 rfl) ?_
        refine k_get (ci := 7) (C := RX7) (T := TX7) (N := 20) (v := .int B1.2.1) hx hb hown hG rfl kin_X7 (show va_P D vwCl [(md 0, .inr (7, [.int ((mB N B1 0) 0), .int ((mB N B1 0) 1), .int ((mB N B1 0) 2), .ref (md 1), .ref (md 2), .ref (md 3), .ref (md 4), .ref (md 5), .int ((mB N B1 0) 8), .int ((mB N B1 0) 9), .int ((mB N B1 0) 10), .ref (md 6), .ref (md 7), .ref (md 8), .ref (md 9), .int ((mB N B1 0) 15), .int ((mB N B1 0) 16), .int ((mB N B1 0) 17), .long B1.2.2.2, .long su]))] _ from by have h := hw.o; unfold mO at h; rw [mset_n (show (0 : Nat) ≠ 40 + i by omega)] at h; exact h) 16 (by decide) wF_X7_158 rfl dX7_place_125 ?_
        refine kc_i (kr_S (As := [.int ((mB N B1 (40 + i)) 0), .int ((mB N B1 (40 + i)) 1), .int B1.1, .int B1.2.1]) (rest := []) hx hb hml hown hG (c_X7_range l D cy ((mB N B1 (40 + i)) 0) ((mB N B1 (40 + i)) 1) B1.1 B1.2.1) cf_X7_range wM_X7_118 trivial ⟨rfl, rfl, by decide, by decide⟩ rfl rfl (Nat.le_of_ble_eq_true rfl) ⟨Nat.le_of_ble_eq_true rfl, Nat.le_of_ble_eq_true rfl⟩ dX7_place_128) ?_
        refine lv_istore (lv' := [(7, .int (pRange ((mB N B1 (40 + i)) 0) ((mB N B1 (40 + i)) 1) B1.1 B1.2.1)), (6, .ref (md (40 + i))), (0, .ref (md 0)), (1, .int (nI i)), (2, .int (nI q)), (3, .int nx), (4, .int x), (5, .int y)]) hx hb dX7_place_131 hl (by decide) rfl (fun ls hl => ?_)
        have hml : c.maxLocals = ls.size := hml9.trans hl.1.symm
        refine lv_aload hx hb dX7_place_133 (lv_at hl 1 rfl) ?_
        refine lv_bipush (v := 20) hx hb dX7_place_135 (by decide) ?_
        refine lv_dup2_11 hx hb dX7_place_137 rfl rfl ?_
        refine k_iald (v := ((mB N B1 (40 + i)) 20)) hx hb hG (show va_P D vwCl [(md (40 + i), .inl (cy 0, 22, .inl (upd (upd (upd (upd (upd (upd (mB N B1 (40 + i)) 12 B1.1) 13 B1.2.1) 14 B1.2.2.1) 15 B1.2.2.2.toInt32) 16 r_55) 17 al)))] _ from by have h := hw.rc hi; rw [mset_s] at h; exact h) (show vp_in (nI 20) 22 from vp_in_nI (by decide) (by decide)) (congrArg (upd (upd (upd (upd (upd (upd (mB N B1 (40 + i)) 12 B1.1) 13 B1.2.1) 14 B1.2.2.1) 15 B1.2.2.2.toInt32) 16 r_55) 17 al) (clI 20 (by decide))) dX7_place_138 ?_
        refine lv_iconst (v := 1) hx hb dX7_place_139 (by decide) ?_
        refine lv_iadd hx hb dX7_place_140 ?_
        refine k_iast hx hb hG (show va_P D vwCl [(md (40 + i), .inl (cy 0, 22, .inl (upd (upd (upd (upd (upd (upd (mB N B1 (40 + i)) 12 B1.1) 13 B1.2.1) 14 B1.2.2.1) 15 B1.2.2.2.toInt32) 16 r_55) 17 al)))] _ from by have h := hw.rc hi; rw [mset_s] at h; exact h) hS (MA.i (mk_rc hi)) (show vp_in (nI 20) 22 from vp_in_nI (by decide) (by decide)) dX7_place_141 (fun H1 locs hP1 z1 oq1 hS => ?_)
        rw [show Int32.toNatClampNeg 20 = 20 from clI 20 (by decide)] at hP1
        have hw := hw.setI hA (mk_rc hi) (ml_rc hi) hP1 oq1
        rw [mset_mset] at hw
        refine lv_aload hx hb dX7_place_142 (lv_at hl 1 rfl) ?_
        refine lv_bipush (v := 21) hx hb dX7_place_144 (by decide) ?_
        refine lv_dup2_11 hx hb dX7_place_146 rfl rfl ?_
        refine k_iald (v := ((mB N B1 (40 + i)) 21)) hx hb hG (show va_P D vwCl [(md (40 + i), .inl (cy 0, 22, .inl (upd (upd (upd (upd (upd (upd (upd (mB N B1 (40 + i)) 12 B1.1) 13 B1.2.1) 14 B1.2.2.1) 15 B1.2.2.2.toInt32) 16 r_55) 17 al) 20 (((mB N B1 (40 + i)) 20) + 1))))] _ from by have h := hw.rc hi; rw [mset_s] at h; exact h) (show vp_in (nI 21) 22 from vp_in_nI (by decide) (by decide)) (congrArg (upd (upd (upd (upd (upd (upd (upd (mB N B1 (40 + i)) 12 B1.1) 13 B1.2.1) 14 B1.2.2.1) 15 B1.2.2.2.toInt32) 16 r_55) 17 al) 20 (((mB N B1 (40 + i)) 20) + 1)) (clI 21 (by decide))) dX7_place_147 ?_
        refine lv_iload hx hb dX7_place_148 (lv_at hl 0 rfl) ?_
        refine lv_iadd hx hb dX7_place_150 ?_
        refine k_iast hx hb hG (show va_P D vwCl [(md (40 + i), .inl (cy 0, 22, .inl (upd (upd (upd (upd (upd (upd (upd (mB N B1 (40 + i)) 12 B1.1) 13 B1.2.1) 14 B1.2.2.1) 15 B1.2.2.2.toInt32) 16 r_55) 17 al) 20 (((mB N B1 (40 + i)) 20) + 1))))] _ from by have h := hw.rc hi; rw [mset_s] at h; exact h) hS (MA.i (mk_rc hi)) (show vp_in (nI 21) 22 from vp_in_nI (by decide) (by decide)) dX7_place_151 (fun H1 locs hP1 z1 oq1 hS => ?_)
        rw [show Int32.toNatClampNeg 21 = 21 from clI 21 (by decide)] at hP1
        have hw := hw.setI hA (mk_rc hi) (ml_rc hi) hP1 oq1
        rw [mset_mset] at hw
        refine lv_aload hx hb dX7_place_152 (lv_at hl 1 rfl) ?_
        refine lv_bipush (v := 17) hx hb dX7_place_154 (by decide) ?_
        refine k_iald (v := al) hx hb hG (show va_P D vwCl [(md (40 + i), .inl (cy 0, 22, .inl (upd (upd (upd (upd (upd (upd (upd (upd (mB N B1 (40 + i)) 12 B1.1) 13 B1.2.1) 14 B1.2.2.1) 15 B1.2.2.2.toInt32) 16 r_55) 17 al) 20 (((mB N B1 (40 + i)) 20) + 1)) 21 (((mB N B1 (40 + i)) 21) + (pRange ((mB N B1 (40 + i)) 0) ((mB N B1 (40 + i)) 1) B1.1 B1.2.1)))))] _ from by have h := hw.rc hi; rw [mset_s] at h; exact h) (show vp_in (nI 17) 22 from vp_in_nI (by decide) (by decide)) (congrArg (upd (upd (upd (upd (upd (upd (upd (upd (mB N B1 (40 + i)) 12 B1.1) 13 B1.2.1) 14 B1.2.2.1) 15 B1.2.2.2.toInt32) 16 r_55) 17 al) 20 (((mB N B1 (40 + i)) 20) + 1)) 21 (((mB N B1 (40 + i)) 21) + (pRange ((mB N B1 (40 + i)) 0) ((mB N B1 (40 + i)) 1) B1.1 B1.2.1))) (clI 17 (by decide))) dX7_place_156 ?_
        refine lv_if_ne (tgt := 179) hx hb dX7_place_157 (by decide) (fun c_157 => ?_) (fun c_157 => ?_)
        · have eA : mPlA N ns i (nI q) nx x y co = al := by unfold mPlA mPlL mPlB mAl4; rw [← eB1, ← e8, ← eal, if_pos c_80, if_neg c_84, if_pos c_103]
          have eR : mPl9 (N (40 + i)) B1 r_55 al = (upd (upd (upd (upd (upd (upd (upd (upd (N (40 + i)) 12 B1.1) 13 B1.2.1) 14 B1.2.2.1) 15 B1.2.2.2.toInt32) 16 r_55) 17 al) 20 (((N (40 + i)) 20) + 1)) 21 (((N (40 + i)) 21) + (pRange ((N (40 + i)) 0) ((N (40 + i)) 1) B1.1 B1.2.1))) := by unfold mPl9 mPl6 mPl4; rw [if_neg c_157]
          have hw : MW D cy md (mPlN N ns i (nI q) nx x y co) B1.2.2.2 su H1 := by unfold mPlN; rw [eA]; unfold mPlL mPlB; rw [← eB1, ← e8, eR]; rw [show mB N B1 (40 + i) = N (40 + i) from mset_n (by omega)] at hw; exact hw
          exact ke_uv hx hb hr hlk hS dX7_place_179 (by unfold mPlB; rw [← eB1]; exact hw)
        · refine lv_iload hx hb dX7_place_160 (lv_at hl 0 rfl) ?_
          refine lv_aload hx hb dX7_place_162 (lv_at hl 1 rfl) ?_
          refine lv_bipush (v := 16) hx hb dX7_place_164 (by decide) ?_
          refine k_iald (v := r_55) hx hb hG (show va_P D vwCl [(md (40 + i), .inl (cy 0, 22, .inl (upd (upd (upd (upd (upd (upd (upd (upd (mB N B1 (40 + i)) 12 B1.1) 13 B1.2.1) 14 B1.2.2.1) 15 B1.2.2.2.toInt32) 16 r_55) 17 al) 20 (((mB N B1 (40 + i)) 20) + 1)) 21 (((mB N B1 (40 + i)) 21) + (pRange ((mB N B1 (40 + i)) 0) ((mB N B1 (40 + i)) 1) B1.1 B1.2.1)))))] _ from by have h := hw.rc hi; rw [mset_s] at h; exact h) (show vp_in (nI 16) 22 from vp_in_nI (by decide) (by decide)) (congrArg (upd (upd (upd (upd (upd (upd (upd (upd (mB N B1 (40 + i)) 12 B1.1) 13 B1.2.1) 14 B1.2.2.1) 15 B1.2.2.2.toInt32) 16 r_55) 17 al) 20 (((mB N B1 (40 + i)) 20) + 1)) 21 (((mB N B1 (40 + i)) 21) + (pRange ((mB N B1 (40 + i)) 0) ((mB N B1 (40 + i)) 1) B1.1 B1.2.1))) (clI 16 (by decide))) dX7_place_166 ?_
          refine lv_icmp_le (tgt := 179) hx hb dX7_place_167 (by decide) (fun c_167 => ?_) (fun c_167 => ?_)
          · rw [show mB N B1 (40 + i) = N (40 + i) from mset_n (by omega)] at c_167
            have eA : mPlA N ns i (nI q) nx x y co = al := by unfold mPlA mPlL mPlB mAl4; rw [← eB1, ← e8, ← eal, if_pos c_80, if_neg c_84, if_pos c_103]
            have eR : mPl9 (N (40 + i)) B1 r_55 al = (upd (upd (upd (upd (upd (upd (upd (upd (N (40 + i)) 12 B1.1) 13 B1.2.1) 14 B1.2.2.1) 15 B1.2.2.2.toInt32) 16 r_55) 17 al) 20 (((N (40 + i)) 20) + 1)) 21 (((N (40 + i)) 21) + (pRange ((N (40 + i)) 0) ((N (40 + i)) 1) B1.1 B1.2.1))) := by unfold mPl9 mPl6 mPl4; rw [if_pos c_157, if_pos c_167]
            have hw : MW D cy md (mPlN N ns i (nI q) nx x y co) B1.2.2.2 su H1 := by unfold mPlN; rw [eA]; unfold mPlL mPlB; rw [← eB1, ← e8, eR]; rw [show mB N B1 (40 + i) = N (40 + i) from mset_n (by omega)] at hw; exact hw
            exact ke_uv hx hb hr hlk hS dX7_place_179 (by unfold mPlB; rw [← eB1]; exact hw)
          · refine lv_aload hx hb dX7_place_170 (lv_at hl 1 rfl) ?_
            refine lv_bipush (v := 18) hx hb dX7_place_172 (by decide) ?_
            refine lv_dup2_11 hx hb dX7_place_174 rfl rfl ?_
            refine k_iald (v := ((mB N B1 (40 + i)) 18)) hx hb hG (show va_P D vwCl [(md (40 + i), .inl (cy 0, 22, .inl (upd (upd (upd (upd (upd (upd (upd (upd (mB N B1 (40 + i)) 12 B1.1) 13 B1.2.1) 14 B1.2.2.1) 15 B1.2.2.2.toInt32) 16 r_55) 17 al) 20 (((mB N B1 (40 + i)) 20) + 1)) 21 (((mB N B1 (40 + i)) 21) + (pRange ((mB N B1 (40 + i)) 0) ((mB N B1 (40 + i)) 1) B1.1 B1.2.1)))))] _ from by have h := hw.rc hi; rw [mset_s] at h; exact h) (show vp_in (nI 18) 22 from vp_in_nI (by decide) (by decide)) (congrArg (upd (upd (upd (upd (upd (upd (upd (upd (mB N B1 (40 + i)) 12 B1.1) 13 B1.2.1) 14 B1.2.2.1) 15 B1.2.2.2.toInt32) 16 r_55) 17 al) 20 (((mB N B1 (40 + i)) 20) + 1)) 21 (((mB N B1 (40 + i)) 21) + (pRange ((mB N B1 (40 + i)) 0) ((mB N B1 (40 + i)) 1) B1.1 B1.2.1))) (clI 18 (by decide))) dX7_place_175 ?_
            refine lv_iconst (v := 1) hx hb dX7_place_176 (by decide) ?_
            refine lv_iadd hx hb dX7_place_177 ?_
            refine k_iast hx hb hG (show va_P D vwCl [(md (40 + i), .inl (cy 0, 22, .inl (upd (upd (upd (upd (upd (upd (upd (upd (mB N B1 (40 + i)) 12 B1.1) 13 B1.2.1) 14 B1.2.2.1) 15 B1.2.2.2.toInt32) 16 r_55) 17 al) 20 (((mB N B1 (40 + i)) 20) + 1)) 21 (((mB N B1 (40 + i)) 21) + (pRange ((mB N B1 (40 + i)) 0) ((mB N B1 (40 + i)) 1) B1.1 B1.2.1)))))] _ from by have h := hw.rc hi; rw [mset_s] at h; exact h) hS (MA.i (mk_rc hi)) (show vp_in (nI 18) 22 from vp_in_nI (by decide) (by decide)) dX7_place_178 (fun H1 locs hP1 z1 oq1 hS => ?_)
            rw [show Int32.toNatClampNeg 18 = 18 from clI 18 (by decide)] at hP1
            have hw := hw.setI hA (mk_rc hi) (ml_rc hi) hP1 oq1
            rw [mset_mset] at hw
            rw [show mB N B1 (40 + i) = N (40 + i) from mset_n (by omega)] at c_167
            have eA : mPlA N ns i (nI q) nx x y co = al := by unfold mPlA mPlL mPlB mAl4; rw [← eB1, ← e8, ← eal, if_pos c_80, if_neg c_84, if_pos c_103]
            have eR : mPl9 (N (40 + i)) B1 r_55 al = (upd (upd (upd (upd (upd (upd (upd (upd (upd (N (40 + i)) 12 B1.1) 13 B1.2.1) 14 B1.2.2.1) 15 B1.2.2.2.toInt32) 16 r_55) 17 al) 20 (((N (40 + i)) 20) + 1)) 21 (((N (40 + i)) 21) + (pRange ((N (40 + i)) 0) ((N (40 + i)) 1) B1.1 B1.2.1))) 18 (((N (40 + i)) 18) + 1)) := by unfold mPl9 mPl6 mPl4; rw [if_pos c_157, if_neg c_167]
            have hw : MW D cy md (mPlN N ns i (nI q) nx x y co) B1.2.2.2 su H1 := by unfold mPlN; rw [eA]; unfold mPlL mPlB; rw [← eB1, ← e8, eR]; rw [show mB N B1 (40 + i) = N (40 + i) from mset_n (by omega)] at hw; exact hw
            exact ke_uv hx hb hr hlk hS dX7_place_179 (by unfold mPlB; rw [← eB1]; exact hw)
      · refine lv_aload hx hb dX7_place_106 (lv_at hl 0 rfl) ?_
        refine lv_bipush (v := 17) hx hb dX7_place_108 (by decide) ?_
        refine lv_iconst (v := 4) hx hb dX7_place_110 (by decide) ?_
        refine k_iast hx hb hG (show va_P D vwCl [(md (40 + i), .inl (cy 0, 22, .inl (upd (upd (upd (upd (upd (upd (mB N B1 (40 + i)) 12 B1.1) 13 B1.2.1) 14 B1.2.2.1) 15 B1.2.2.2.toInt32) 16 r_55) 17 al)))] _ from by have h := hw.rc hi; rw [mset_s] at h; exact h) hS (MA.i (mk_rc hi)) (show vp_in (nI 17) 22 from vp_in_nI (by decide) (by decide)) dX7_place_111 (fun H1 locs hP1 z1 oq1 hS => ?_)
        rw [show Int32.toNatClampNeg 17 = 17 from clI 17 (by decide)] at hP1
        have hw := hw.setI hA (mk_rc hi) (ml_rc hi) hP1 oq1
        rw [mset_mset] at hw
        refine lv_aload hx hb dX7_place_112 (lv_at hl 0 rfl) ?_
        refine lv_iconst (v := 0) hx hb dX7_place_114 (by decide) ?_
        refine k_iald (v := ((mB N B1 (40 + i)) 0)) hx hb hG (show va_P D vwCl [(md (40 + i), .inl (cy 0, 22, .inl (upd (upd (upd (upd (upd (upd (upd (mB N B1 (40 + i)) 12 B1.1) 13 B1.2.1) 14 B1.2.2.1) 15 B1.2.2.2.toInt32) 16 r_55) 17 al) 17 4)))] _ from by have h := hw.rc hi; rw [mset_s] at h; exact h) (show vp_in (nI 0) 22 from vp_in_nI (by decide) (by decide)) (congrArg (upd (upd (upd (upd (upd (upd (upd (mB N B1 (40 + i)) 12 B1.1) 13 B1.2.1) 14 B1.2.2.1) 15 B1.2.2.2.toInt32) 16 r_55) 17 al) 17 4) (clI 0 (by decide))) dX7_place_115 ?_
        refine lv_aload hx hb dX7_place_116 (lv_at hl 0 rfl) ?_
        refine lv_iconst (v := 1) hx hb dX7_place_118 (by decide) ?_
        refine k_iald (v := ((mB N B1 (40 + i)) 1)) hx hb hG (show va_P D vwCl [(md (40 + i), .inl (cy 0, 22, .inl (upd (upd (upd (upd (upd (upd (upd (mB N B1 (40 + i)) 12 B1.1) 13 B1.2.1) 14 B1.2.2.1) 15 B1.2.2.2.toInt32) 16 r_55) 17 al) 17 4)))] _ from by have h := hw.rc hi; rw [mset_s] at h; exact h) (show vp_in (nI 1) 22 from vp_in_nI (by decide) (by decide)) (congrArg (upd (upd (upd (upd (upd (upd (upd (mB N B1 (40 + i)) 12 B1.1) 13 B1.2.1) 14 B1.2.2.1) 15 B1.2.2.2.toInt32) 16 r_55) 17 al) 17 4) (clI 1 (by decide))) dX7_place_119 ?_
        refine lv_aload_n hx hb dX7_place_120 rfl (lv_at hl 1 rfl) ?_
        refine k_get (ci := 7) (C := RX7) (T := TX7) (N := 20) (v := .int B1.1) hx hb hown hG rfl kin_X7 (show va_P D vwCl [(md 0, .inr (7, [.int ((mB N B1 0) 0), .int ((mB N B1 0) 1), .int ((mB N B1 0) 2), .ref (md 1), .ref (md 2), .ref (md 3), .ref (md 4), .ref (md 5), .int ((mB N B1 0) 8), .int ((mB N B1 0) 9), .int ((mB N B1 0) 10), .ref (md 6), .ref (md 7), .ref (md 8), .ref (md 9), .int ((mB N B1 0) 15), .int ((mB N B1 0) 16), .int ((mB N B1 0) 17), .long B1.2.2.2, .long su]))] _ from by have h := hw.o; unfold mO at h; rw [mset_n (show (0 : Nat) ≠ 40 + i by omega)] at h; exact h) 15 (by decide) wF_X7_155 rfl dX7_place_121 ?_
        refine lv_aload_n hx hb dX7_place_124 rfl (lv_at hl 1 rfl) ?_
        refine k_get (ci := 7) (C := RX7) (T := TX7) (N := 20) (v := .int B1.2.1) hx hb hown hG rfl kin_X7 (show va_P D vwCl [(md 0, .inr (7, [.int ((mB N B1 0) 0), .int ((mB N B1 0) 1), .int ((mB N B1 0) 2), .ref (md 1), .ref (md 2), .ref (md 3), .ref (md 4), .ref (md 5), .int ((mB N B1 0) 8), .int ((mB N B1 0) 9), .int ((mB N B1 0) 10), .ref (md 6), .ref (md 7), .ref (md 8), .ref (md 9), .int ((mB N B1 0) 15), .int ((mB N B1 0) 16), .int ((mB N B1 0) 17), .long B1.2.2.2, .long su]))] _ from by have h := hw.o; unfold mO at h; rw [mset_n (show (0 : Nat) ≠ 40 + i by omega)] at h; exact h) 16 (by decide) wF_X7_158 rfl dX7_place_125 ?_
        refine kc_i (kr_S (As := [.int ((mB N B1 (40 + i)) 0), .int ((mB N B1 (40 + i)) 1), .int B1.1, .int B1.2.1]) (rest := []) hx hb hml hown hG (c_X7_range l D cy ((mB N B1 (40 + i)) 0) ((mB N B1 (40 + i)) 1) B1.1 B1.2.1) cf_X7_range wM_X7_118 trivial ⟨rfl, rfl, by decide, by decide⟩ rfl rfl (Nat.le_of_ble_eq_true rfl) ⟨Nat.le_of_ble_eq_true rfl, Nat.le_of_ble_eq_true rfl⟩ dX7_place_128) ?_
        refine lv_istore (lv' := [(7, .int (pRange ((mB N B1 (40 + i)) 0) ((mB N B1 (40 + i)) 1) B1.1 B1.2.1)), (6, .ref (md (40 + i))), (0, .ref (md 0)), (1, .int (nI i)), (2, .int (nI q)), (3, .int nx), (4, .int x), (5, .int y)]) hx hb dX7_place_131 hl (by decide) rfl (fun ls hl => ?_)
        have hml : c.maxLocals = ls.size := hml9.trans hl.1.symm
        refine lv_aload hx hb dX7_place_133 (lv_at hl 1 rfl) ?_
        refine lv_bipush (v := 20) hx hb dX7_place_135 (by decide) ?_
        refine lv_dup2_11 hx hb dX7_place_137 rfl rfl ?_
        refine k_iald (v := ((mB N B1 (40 + i)) 20)) hx hb hG (show va_P D vwCl [(md (40 + i), .inl (cy 0, 22, .inl (upd (upd (upd (upd (upd (upd (upd (mB N B1 (40 + i)) 12 B1.1) 13 B1.2.1) 14 B1.2.2.1) 15 B1.2.2.2.toInt32) 16 r_55) 17 al) 17 4)))] _ from by have h := hw.rc hi; rw [mset_s] at h; exact h) (show vp_in (nI 20) 22 from vp_in_nI (by decide) (by decide)) (congrArg (upd (upd (upd (upd (upd (upd (upd (mB N B1 (40 + i)) 12 B1.1) 13 B1.2.1) 14 B1.2.2.1) 15 B1.2.2.2.toInt32) 16 r_55) 17 al) 17 4) (clI 20 (by decide))) dX7_place_138 ?_
        refine lv_iconst (v := 1) hx hb dX7_place_139 (by decide) ?_
        refine lv_iadd hx hb dX7_place_140 ?_
        refine k_iast hx hb hG (show va_P D vwCl [(md (40 + i), .inl (cy 0, 22, .inl (upd (upd (upd (upd (upd (upd (upd (mB N B1 (40 + i)) 12 B1.1) 13 B1.2.1) 14 B1.2.2.1) 15 B1.2.2.2.toInt32) 16 r_55) 17 al) 17 4)))] _ from by have h := hw.rc hi; rw [mset_s] at h; exact h) hS (MA.i (mk_rc hi)) (show vp_in (nI 20) 22 from vp_in_nI (by decide) (by decide)) dX7_place_141 (fun H1 locs hP1 z1 oq1 hS => ?_)
        rw [show Int32.toNatClampNeg 20 = 20 from clI 20 (by decide)] at hP1
        have hw := hw.setI hA (mk_rc hi) (ml_rc hi) hP1 oq1
        rw [mset_mset] at hw
        refine lv_aload hx hb dX7_place_142 (lv_at hl 1 rfl) ?_
        refine lv_bipush (v := 21) hx hb dX7_place_144 (by decide) ?_
        refine lv_dup2_11 hx hb dX7_place_146 rfl rfl ?_
        refine k_iald (v := ((mB N B1 (40 + i)) 21)) hx hb hG (show va_P D vwCl [(md (40 + i), .inl (cy 0, 22, .inl (upd (upd (upd (upd (upd (upd (upd (upd (mB N B1 (40 + i)) 12 B1.1) 13 B1.2.1) 14 B1.2.2.1) 15 B1.2.2.2.toInt32) 16 r_55) 17 al) 17 4) 20 (((mB N B1 (40 + i)) 20) + 1))))] _ from by have h := hw.rc hi; rw [mset_s] at h; exact h) (show vp_in (nI 21) 22 from vp_in_nI (by decide) (by decide)) (congrArg (upd (upd (upd (upd (upd (upd (upd (upd (mB N B1 (40 + i)) 12 B1.1) 13 B1.2.1) 14 B1.2.2.1) 15 B1.2.2.2.toInt32) 16 r_55) 17 al) 17 4) 20 (((mB N B1 (40 + i)) 20) + 1)) (clI 21 (by decide))) dX7_place_147 ?_
        refine lv_iload hx hb dX7_place_148 (lv_at hl 0 rfl) ?_
        refine lv_iadd hx hb dX7_place_150 ?_
        refine k_iast hx hb hG (show va_P D vwCl [(md (40 + i), .inl (cy 0, 22, .inl (upd (upd (upd (upd (upd (upd (upd (upd (mB N B1 (40 + i)) 12 B1.1) 13 B1.2.1) 14 B1.2.2.1) 15 B1.2.2.2.toInt32) 16 r_55) 17 al) 17 4) 20 (((mB N B1 (40 + i)) 20) + 1))))] _ from by have h := hw.rc hi; rw [mset_s] at h; exact h) hS (MA.i (mk_rc hi)) (show vp_in (nI 21) 22 from vp_in_nI (by decide) (by decide)) dX7_place_151 (fun H1 locs hP1 z1 oq1 hS => ?_)
        rw [show Int32.toNatClampNeg 21 = 21 from clI 21 (by decide)] at hP1
        have hw := hw.setI hA (mk_rc hi) (ml_rc hi) hP1 oq1
        rw [mset_mset] at hw
        refine lv_aload hx hb dX7_place_152 (lv_at hl 1 rfl) ?_
        refine lv_bipush (v := 17) hx hb dX7_place_154 (by decide) ?_
        refine k_iald (v := 4) hx hb hG (show va_P D vwCl [(md (40 + i), .inl (cy 0, 22, .inl (upd (upd (upd (upd (upd (upd (upd (upd (upd (mB N B1 (40 + i)) 12 B1.1) 13 B1.2.1) 14 B1.2.2.1) 15 B1.2.2.2.toInt32) 16 r_55) 17 al) 17 4) 20 (((mB N B1 (40 + i)) 20) + 1)) 21 (((mB N B1 (40 + i)) 21) + (pRange ((mB N B1 (40 + i)) 0) ((mB N B1 (40 + i)) 1) B1.1 B1.2.1)))))] _ from by have h := hw.rc hi; rw [mset_s] at h; exact h) (show vp_in (nI 17) 22 from vp_in_nI (by decide) (by decide)) (congrArg (upd (upd (upd (upd (upd (upd (upd (upd (upd (mB N B1 (40 + i)) 12 B1.1) 13 B1.2.1) 14 B1.2.2.1) 15 B1.2.2.2.toInt32) 16 r_55) 17 al) 17 4) 20 (((mB N B1 (40 + i)) 20) + 1)) 21 (((mB N B1 (40 + i)) 21) + (pRange ((mB N B1 (40 + i)) 0) ((mB N B1 (40 + i)) 1) B1.1 B1.2.1))) (clI 17 (by decide))) dX7_place_156 ?_
        refine lv_if_ne (tgt := 179) hx hb dX7_place_157 (by decide) (fun _ => ?_) (fun q9 => absurd q9 (show ¬ (4 : Int32) = 0 by decide))
        have eA : mPlA N ns i (nI q) nx x y co = 4 := by unfold mPlA mPlL mPlB mAl4; rw [← eB1, ← e8, ← eal, if_pos c_80, if_neg c_84, if_neg c_103]
        have eR : mPl9 (N (40 + i)) B1 r_55 4 = (upd (upd (upd (upd (upd (upd (upd (upd (upd (N (40 + i)) 12 B1.1) 13 B1.2.1) 14 B1.2.2.1) 15 B1.2.2.2.toInt32) 16 r_55) 17 al) 17 4) 20 (((N (40 + i)) 20) + 1)) 21 (((N (40 + i)) 21) + (pRange ((N (40 + i)) 0) ((N (40 + i)) 1) B1.1 B1.2.1))) := by unfold mPl9 mPl6 mPl4; rw [if_neg (show ¬ (4 : Int32) = 0 by decide)]; rw [upd_upd]
        have hw : MW D cy md (mPlN N ns i (nI q) nx x y co) B1.2.2.2 su H1 := by unfold mPlN; rw [eA]; unfold mPlL mPlB; rw [← eB1, ← e8, eR]; rw [show mB N B1 (40 + i) = N (40 + i) from mset_n (by omega)] at hw; exact hw
        exact ke_uv hx hb hr hlk hS dX7_place_179 (by unfold mPlB; rw [← eB1]; exact hw)
set_option maxHeartbeats 4000000 in
set_option maxRecDepth 100000 in
theorem c_X7_correctionB (l : Launch) (D : va_G) (cy : Nat → ClassId) (md : Nat → Nat) (N : Nat → Nat → Int32) (co su : Int64) (ns : Nat) (hns8 : ns ≤ 8) (ens : N 0 8 = nI ns) (i j : Nat) (hri : mRfI N i) (hi : i < 3) (hj : j < 8) : Met l yX7_correction [.code yX7_correction cX7_correction 8 (some .int)] ({ frames := 1, cells := 0, slots := 0, locals := 22 } : Room) (PC D cy [.ref (md 0), .int (nI i), .int (nI j)] (fun H => MW D cy md N co su H)) (RQi (mCorr N ns i j)) 0 0 (fun _ => False) := by
  refine k_body (by decide +kernel) (Nat.le_of_ble_eq_true rfl) ?_
  intro p e s m below meth c ls hx hb hml hown hr hlk hmn hl hG hI
  have hml9 : c.maxLocals = 8 := hml.trans hl.1
  have hl : lv_has ls 8 [(0, .ref (md 0)), (1, .int (nI i)), (2, .int (nI j))] := hl
  have hw := hI
  refine lv_aload_n hx hb dX7_correction_0 rfl (lv_at hl 0 rfl) ?_
  refine k_get (ci := 7) (C := RX7) (T := TX7) (N := 20) (v := .ref (md 4)) hx hb hown hG rfl kin_X7 hw.o 6 (by decide) wF_X7_20 rfl dX7_correction_1 ?_
  refine lv_iload_n hx hb dX7_correction_4 rfl (lv_at hl 1 rfl) ?_
  refine k_ald2 (v := (md (40 + i))) hx hb hG 5 rfl hw.a4 (vp_in_nI (n := i) hi (by decide)) (mo_rc hi) dX7_correction_5 ?_
  refine lv_bipush (v := 9) hx hb dX7_correction_6 (by decide) ?_
  refine k_iald (v := ((N (40 + i)) 9)) hx hb hG (hw.rc hi) (show vp_in (nI 9) 22 from vp_in_nI (by decide) (by decide)) (congrArg (N (40 + i)) (clI 9 (by decide))) dX7_correction_8 ?_
  refine lv_istore_n (lv' := [(3, .int ((N (40 + i)) 9)), (0, .ref (md 0)), (1, .int (nI i)), (2, .int (nI j))]) hx hb dX7_correction_9 rfl hl (by decide) rfl (fun ls hl => ?_)
  have hml : c.maxLocals = ls.size := hml9.trans hl.1.symm
  refine lv_iload_n hx hb dX7_correction_10 rfl (lv_at hl 0 rfl) ?_
  refine lv_iconst (v := (-1)) hx hb dX7_correction_11 (by decide) ?_
  refine lv_icmp_ne (tgt := 17) hx hb dX7_correction_12 (by decide) (fun c_12 => ?_) (fun c_12 => ?_)
  · obtain ⟨q, hq, hqi, er, hrb⟩ := hri.resolve_left c_12
    refine lv_aload_n hx hb dX7_correction_17 rfl (lv_at hl 1 rfl) ?_
    refine k_get (ci := 7) (C := RX7) (T := TX7) (N := 20) (v := .ref (md 4)) hx hb hown hG rfl kin_X7 hw.o 6 (by decide) wF_X7_20 rfl dX7_correction_18 ?_
    refine lv_iload_n hx hb dX7_correction_21 rfl (lv_at hl 0 rfl) ?_
    refine k_ald2 (v := (md (40 + q))) hx hb hG 5 rfl hw.a4 (by rw [er]; exact vp_in_nI (n := q) hq (by decide)) (by rw [er]; exact mo_rc hq) dX7_correction_22 ?_
    refine lv_astore (lv' := [(4, .ref (md (40 + q))), (3, .int ((N (40 + i)) 9)), (0, .ref (md 0)), (1, .int (nI i)), (2, .int (nI j))]) hx hb dX7_correction_23 hl (by decide) rfl (fun ls hl => ?_)
    have hml : c.maxLocals = ls.size := hml9.trans hl.1.symm
    refine lv_aload_n hx hb dX7_correction_25 rfl (lv_at hl 2 rfl) ?_
    refine k_get (ci := 7) (C := RX7) (T := TX7) (N := 20) (v := .ref (md 5)) hx hb hown hG rfl kin_X7 hw.o 7 (by decide) wF_X7_25 rfl dX7_correction_26 ?_
    refine lv_iload_n hx hb dX7_correction_29 rfl (lv_at hl 1 rfl) ?_
    refine k_ald2 (v := (md (50 + q))) hx hb hG 6 rfl hw.a5 (by rw [er]; exact vp_in_nI (n := q) hq (by decide)) (by rw [er]; exact mo_ro hq) dX7_correction_30 ?_
    refine lv_iload_n hx hb dX7_correction_31 rfl (lv_at hl 4 rfl) ?_
    refine k_ald2 (v := (md (60 + 8 * q + j))) hx hb hG 5 rfl (hw.ro hq) (vp_in_nI (n := j) hj (by decide)) (mo_rw (i := q) hj) dX7_correction_32 ?_
    refine lv_astore (lv' := [(5, .ref (md (60 + 8 * q + j))), (4, .ref (md (40 + q))), (3, .int ((N (40 + i)) 9)), (0, .ref (md 0)), (1, .int (nI i)), (2, .int (nI j))]) hx hb dX7_correction_33 hl (by decide) rfl (fun ls hl => ?_)
    have hml : c.maxLocals = ls.size := hml9.trans hl.1.symm
    refine lv_aload hx hb dX7_correction_35 (lv_at hl 1 rfl) ?_
    refine lv_bipush (v := 10) hx hb dX7_correction_37 (by decide) ?_
    refine k_iald (v := ((N (40 + q)) 10)) hx hb hG (hw.rc hq) (show vp_in (nI 10) 22 from vp_in_nI (by decide) (by decide)) (congrArg (N (40 + q)) (clI 10 (by decide))) dX7_correction_39 ?_
    refine lv_iconst (v := (-1)) hx hb dX7_correction_40 (by decide) ?_
    refine lv_icmp_eq (tgt := 66) hx hb dX7_correction_41 (by decide) (fun c_41 => ?_) (fun c_41 => ?_)
    · refine lv_iconst (v := 0) hx hb dX7_correction_66 (by decide) ?_
      exact ke_i hx hb hr hlk dX7_correction_67 (by unfold mCorr; rw [if_neg c_12, er, nI_clamp (by omega), if_pos c_41])
    · refine lv_aload_n hx hb dX7_correction_44 rfl (lv_at hl 3 rfl) ?_
      refine k_get (ci := 7) (C := RX7) (T := TX7) (N := 20) (v := .int ((N 0) 1)) hx hb hown hG rfl kin_X7 hw.o 1 (by decide) wF_X7_64 rfl dX7_correction_45 ?_
      refine lv_aload hx hb dX7_correction_48 (lv_at hl 1 rfl) ?_
      refine lv_bipush (v := 10) hx hb dX7_correction_50 (by decide) ?_
      refine k_iald (v := ((N (40 + q)) 10)) hx hb hG (hw.rc hq) (show vp_in (nI 10) 22 from vp_in_nI (by decide) (by decide)) (congrArg (N (40 + q)) (clI 10 (by decide))) dX7_correction_52 ?_
      refine lv_isub hx hb dX7_correction_53 ?_
      refine lv_iconst (v := 5) hx hb dX7_correction_54 (by decide) ?_
      refine lv_icmp_gt (tgt := 66) hx hb dX7_correction_55 (by decide) (fun c_55 => ?_) (fun c_55 => ?_)
      · refine lv_iconst (v := 0) hx hb dX7_correction_66 (by decide) ?_
        exact ke_i hx hb hr hlk dX7_correction_67 (by unfold mCorr; rw [if_neg c_12, er, nI_clamp (by omega), if_neg c_41, if_pos c_55])
      · refine lv_aload hx hb dX7_correction_58 (lv_at hl 0 rfl) ?_
        refine lv_bipush (v := 6) hx hb dX7_correction_60 (by decide) ?_
        refine k_iald (v := ((N (60 + 8 * q + j)) 6)) hx hb hG (hw.rw hq hj) (show vp_in (nI 6) 12 from vp_in_nI (by decide) (by decide)) (congrArg (N (60 + 8 * q + j)) (clI 6 (by decide))) dX7_correction_62 ?_
        refine lv_if_ne (tgt := 68) hx hb dX7_correction_63 (by decide) (fun c_63 => ?_) (fun c_63 => ?_)
        · refine lv_iconst (v := 0) hx hb dX7_correction_68 (by decide) ?_
          refine lv_istore (lv' := [(6, .int 0), (5, .ref (md (60 + 8 * q + j))), (4, .ref (md (40 + q))), (3, .int ((N (40 + i)) 9)), (0, .ref (md 0)), (1, .int (nI i)), (2, .int (nI j))]) hx hb dX7_correction_69 hl (by decide) rfl (fun ls hl => ?_)
          have hml : c.maxLocals = ls.size := hml9.trans hl.1.symm
          refine lv_iconst (v := 0) hx hb dX7_correction_71 (by decide) ?_
          refine lv_istore (lv' := [(7, .int 0), (6, .int 0), (5, .ref (md (60 + 8 * q + j))), (4, .ref (md (40 + q))), (3, .int ((N (40 + i)) 9)), (0, .ref (md 0)), (1, .int (nI i)), (2, .int (nI j))]) hx hb dX7_correction_72 hl (by decide) rfl (fun ls hl => ?_)
          have hml : c.maxLocals = ls.size := hml9.trans hl.1.symm
          have lp74_1 : ∀ (n9 : Nat) (k : Nat) (acc : Int32), ns + 1 - k ≤ n9 → k ≤ ns → acc = mSumR N q k →  ∀ ls : Array Slot, lv_has ls 8 [(7, .int (nI k)), (6, .int acc), (5, .ref (md (60 + 8 * q + j))), (4, .ref (md (40 + q))), (3, .int ((N (40 + i)) 9)), (0, .ref (md 0)), (1, .int (nI i)), (2, .int (nI j))] → W p l e ({ frames := 1, cells := 0, slots := 0, locals := 22 } : Room) s m ([.ref (md 0), .int (nI i), .int (nI j)] : List Value).toArray below meth c s.heap [] 0 0 (MQ below (RQi (mCorr N ns i j)) ([.ref (md 0), .int (nI i), .int (nI j)] : List Value).toArray s 0 0 (fun _ => False)) (F0 m 74 ls []) := by
            intro n9
            induction n9 with
            | zero =>
              intro k acc h9
              intro hj; exact absurd h9 (by omega)
            | succ n9 ih9 =>
              intro k acc hn9 hk ea ls hl
              have hml : c.maxLocals = ls.size := hml9.trans hl.1.symm
              refine lv_iload hx hb dX7_correction_74 (lv_at hl 0 rfl) ?_
              refine lv_aload_n hx hb dX7_correction_76 rfl (lv_at hl 5 rfl) ?_
              refine k_get (ci := 7) (C := RX7) (T := TX7) (N := 20) (v := .int ((N 0) 8)) hx hb hown hG rfl kin_X7 hw.o 8 (by decide) wF_X7_79 rfl dX7_correction_77 ?_
              refine lv_icmp_ge (tgt := 126) hx hb dX7_correction_80 (by decide) (fun c_80 => ?_) (fun c_80 => ?_)
              · rw [ens] at c_80
                have enk : k = ns := Nat.le_antisymm hk ((nI_leI (by omega) (by omega)).mp c_80)
                refine lv_aload hx hb dX7_correction_126 (lv_at hl 2 rfl) ?_
                refine lv_bipush (v := 10) hx hb dX7_correction_128 (by decide) ?_
                refine k_iald (v := ((N (60 + 8 * q + j)) 10)) hx hb hG (hw.rw hq hj) (show vp_in (nI 10) 12 from vp_in_nI (by decide) (by decide)) (congrArg (N (60 + 8 * q + j)) (clI 10 (by decide))) dX7_correction_130 ?_
                refine lv_iload hx hb dX7_correction_131 (lv_at hl 1 rfl) ?_
                refine lv_aload hx hb dX7_correction_133 (lv_at hl 3 rfl) ?_
                refine lv_bipush (v := 11) hx hb dX7_correction_135 (by decide) ?_
                refine k_iald (v := ((N (40 + q)) 11)) hx hb hG (hw.rc hq) (show vp_in (nI 11) 22 from vp_in_nI (by decide) (by decide)) (congrArg (N (40 + q)) (clI 11 (by decide))) dX7_correction_137 ?_
                refine kc_i (kr_S (As := [.int acc, .int ((N (40 + q)) 11)]) (rest := [.int ((N (60 + 8 * q + j)) 10)]) hx hb hml hown hG (c_J9_floorDiv_7cf53 l D cy acc ((N (40 + q)) 11) (hrb j hj c_63)) cf_J9_floorDiv_7cf53 wM_X7_137 trivial ⟨rfl, rfl, by decide, by decide⟩ rfl rfl (Nat.le_of_ble_eq_true rfl) ⟨Nat.le_of_ble_eq_true rfl, Nat.le_of_ble_eq_true rfl⟩ dX7_correction_138) ?_
                refine lv_isub hx hb dX7_correction_141 ?_
                exact ke_i hx hb hr hlk dX7_correction_142 (by unfold mCorr; rw [if_neg c_12, er, nI_clamp (by omega), if_neg c_41, if_neg c_55, if_neg c_63]; rw [ea, enk])
              · rw [ens] at c_80
                have hltk : k < ns := by
                  rcases Nat.lt_or_ge k ns with q | q
                  · exact q
                  · exact absurd (nI_le q (by omega)) c_80
                have hlt8k : k < 8 := Nat.lt_of_lt_of_le hltk hns8
                refine lv_iload hx hb dX7_correction_83 (lv_at hl 1 rfl) ?_
                refine lv_aload_n hx hb dX7_correction_85 rfl (lv_at hl 5 rfl) ?_
                refine k_get (ci := 7) (C := RX7) (T := TX7) (N := 20) (v := .ref (md 5)) hx hb hown hG rfl kin_X7 hw.o 7 (by decide) wF_X7_25 rfl dX7_correction_86 ?_
                refine lv_iload_n hx hb dX7_correction_89 rfl (lv_at hl 4 rfl) ?_
                refine k_ald2 (v := (md (50 + q))) hx hb hG 6 rfl hw.a5 (by rw [er]; exact vp_in_nI (n := q) hq (by decide)) (by rw [er]; exact mo_ro hq) dX7_correction_90 ?_
                refine lv_iload hx hb dX7_correction_91 (lv_at hl 0 rfl) ?_
                refine k_ald2 (v := (md (60 + 8 * q + k))) hx hb hG 5 rfl (hw.ro hq) (vp_in_nI (n := k) hlt8k (by decide)) (mo_rw (i := q) hlt8k) dX7_correction_93 ?_
                refine lv_bipush (v := 6) hx hb dX7_correction_94 (by decide) ?_
                refine k_iald (v := ((N (60 + 8 * q + k)) 6)) hx hb hG (hw.rw hq hlt8k) (show vp_in (nI 6) 12 from vp_in_nI (by decide) (by decide)) (congrArg (N (60 + 8 * q + k)) (clI 6 (by decide))) dX7_correction_96 ?_
                refine lv_iconst (v := 1) hx hb dX7_correction_97 (by decide) ?_
                refine lv_icmp_ne (tgt := 116) hx hb dX7_correction_98 (by decide) (fun c_98 => ?_) (fun c_98 => ?_)
                · refine lv_iconst (v := 0) hx hb dX7_correction_116 (by decide) ?_
                  refine lv_iadd hx hb dX7_correction_117 ?_
                  refine lv_istore (lv' := [(6, .int (acc + 0)), (7, .int (nI k)), (5, .ref (md (60 + 8 * q + j))), (4, .ref (md (40 + q))), (3, .int ((N (40 + i)) 9)), (0, .ref (md 0)), (1, .int (nI i)), (2, .int (nI j))]) hx hb dX7_correction_118 hl (by decide) rfl (fun ls hl => ?_)
                  have hml : c.maxLocals = ls.size := hml9.trans hl.1.symm
                  refine lv_iinc (v := (nI (k + 1))) (lv' := [(7, .int (nI (k + 1))), (6, .int (acc + 0)), (5, .ref (md (60 + 8 * q + j))), (4, .ref (md (40 + q))), (3, .int ((N (40 + i)) 9)), (0, .ref (md 0)), (1, .int (nI i)), (2, .int (nI j))]) hx hb dX7_correction_120 hl (k := 1) rfl ((nI_succ k).symm) (by decide) rfl (fun ls hl => ?_)
                  have hml : c.maxLocals = ls.size := hml9.trans hl.1.symm
                  refine lv_goto (tgt := 74) hx hb dX7_correction_123 (by decide) ?_
                  exact ih9 (k + 1) (acc + 0) (by omega) hltk (by rw [ea, mSumR_s, if_neg c_98]) ls (lv_sub hl [0, 1, 2, 3, 4, 5, 6, 7] rfl)
                · refine lv_aload_n hx hb dX7_correction_101 rfl (lv_at hl 5 rfl) ?_
                  refine k_get (ci := 7) (C := RX7) (T := TX7) (N := 20) (v := .ref (md 5)) hx hb hown hG rfl kin_X7 hw.o 7 (by decide) wF_X7_25 rfl dX7_correction_102 ?_
                  refine lv_iload_n hx hb dX7_correction_105 rfl (lv_at hl 4 rfl) ?_
                  refine k_ald2 (v := (md (50 + q))) hx hb hG 6 rfl hw.a5 (by rw [er]; exact vp_in_nI (n := q) hq (by decide)) (by rw [er]; exact mo_ro hq) dX7_correction_106 ?_
                  refine lv_iload hx hb dX7_correction_107 (lv_at hl 0 rfl) ?_
                  refine k_ald2 (v := (md (60 + 8 * q + k))) hx hb hG 5 rfl (hw.ro hq) (vp_in_nI (n := k) hlt8k (by decide)) (mo_rw (i := q) hlt8k) dX7_correction_109 ?_
                  refine lv_bipush (v := 10) hx hb dX7_correction_110 (by decide) ?_
                  refine k_iald (v := ((N (60 + 8 * q + k)) 10)) hx hb hG (hw.rw hq hlt8k) (show vp_in (nI 10) 12 from vp_in_nI (by decide) (by decide)) (congrArg (N (60 + 8 * q + k)) (clI 10 (by decide))) dX7_correction_112 ?_
                  refine lv_goto (tgt := 117) hx hb dX7_correction_113 (by decide) ?_
                  refine lv_iadd hx hb dX7_correction_117 ?_
                  refine lv_istore (lv' := [(6, .int (acc + ((N (60 + 8 * q + k)) 10))), (7, .int (nI k)), (5, .ref (md (60 + 8 * q + j))), (4, .ref (md (40 + q))), (3, .int ((N (40 + i)) 9)), (0, .ref (md 0)), (1, .int (nI i)), (2, .int (nI j))]) hx hb dX7_correction_118 hl (by decide) rfl (fun ls hl => ?_)
                  have hml : c.maxLocals = ls.size := hml9.trans hl.1.symm
                  refine lv_iinc (v := (nI (k + 1))) (lv' := [(7, .int (nI (k + 1))), (6, .int (acc + ((N (60 + 8 * q + k)) 10))), (5, .ref (md (60 + 8 * q + j))), (4, .ref (md (40 + q))), (3, .int ((N (40 + i)) 9)), (0, .ref (md 0)), (1, .int (nI i)), (2, .int (nI j))]) hx hb dX7_correction_120 hl (k := 1) rfl ((nI_succ k).symm) (by decide) rfl (fun ls hl => ?_)
                  have hml : c.maxLocals = ls.size := hml9.trans hl.1.symm
                  refine lv_goto (tgt := 74) hx hb dX7_correction_123 (by decide) ?_
                  exact ih9 (k + 1) (acc + ((N (60 + 8 * q + k)) 10)) (by omega) hltk (by rw [ea, mSumR_s, if_pos c_98]) ls (lv_sub hl [0, 1, 2, 3, 4, 5, 6, 7] rfl)
          exact lp74_1 (ns + 1) 0 0 (Nat.le_refl _) (Nat.zero_le _) (by rw [mSumR_0]) ls (lv_sub hl [0, 1, 2, 3, 4, 5, 6, 7] rfl)
        · refine lv_iconst (v := 0) hx hb dX7_correction_66 (by decide) ?_
          exact ke_i hx hb hr hlk dX7_correction_67 (by unfold mCorr; rw [if_neg c_12, er, nI_clamp (by omega), if_neg c_41, if_neg c_55, if_pos c_63])
  · refine lv_iconst (v := 0) hx hb dX7_correction_15 (by decide) ?_
    exact ke_i hx hb hr hlk dX7_correction_16 (by unfold mCorr; rw [if_pos c_12])
set_option maxHeartbeats 4000000 in
set_option maxRecDepth 100000 in
theorem c_X7_observe (l : Launch) (D : va_G) (cy : Nat → ClassId) (md : Nat → Nat) (N : Nat → Nat → Int32) (co su : Int64) (hA : MI md) (ns nt nr : Nat) (hL : LB ns nt nr) (hN : MN N ns nt nr) (hre : mRef N) (hrs : ∀ i, i < nr → ¬ N (40 + i) 9 = nI i) (x : Int32) : Met l yX7_observe [.code yX7_observe cX7_observe 10 (some .int)] ({ frames := 7, cells := 0, slots := 0, locals := 177 } : Room) (PC D cy [.ref (md 0), .int x] (fun H => MW D cy md N co su H)) (UQi (MA md) (mOut D cy md N co su (kObsM (thr N 0) nr x) (fun r H => ∃ u, u < nr ∧ x = nI u ∧ r = mObsE (mObsZ (thr N 0) ns u co).1 u (40 + u) 17 ∧ MW D cy md (mObsE (mObsZ (thr N 0) ns u co).1 u) (mObsZ (thr N 0) ns u co).2 su H))) 0 0 (MA md) := by
  refine k_body (by decide +kernel) (Nat.le_of_ble_eq_true rfl) ?_
  intro p e s m below meth c ls hx hb hml hown hr hlk hmn hl hG hI
  have hml9 : c.maxLocals = 10 := hml.trans hl.1
  have hl : lv_has ls 10 [(0, .ref (md 0)), (1, .int x)] := hl
  have hS : va_S (MA md) s.heap s.heap [] := va_S.rf
  have hw := hI
  refine lv_aload_n hx hb dX7_observe_0 rfl (lv_at hl 0 rfl) ?_
  refine lv_iconst (v := 0) hx hb dX7_observe_1 (by decide) ?_
  refine k_put (ci := 7) (C := RX7) (T := TX7) (N := 20) (v := .int 0) hx hb hown hG rfl kin_X7 tyX7 tyX7_ok nmX7 hw.o hS MA.o 0 (by decide) wF_X7_41 rfl rfl rfl (Nat.le_of_ble_eq_true rfl) dX7_observe_2 (fun H1 locs hP1 z1 oq1 hS => ?_)
  have hw := hw.setO (r := (upd (N 0) 0 0)) (c' := co) (s' := su) hA hP1 oq1
  have hw : MW D cy md (thr N 0) co su H1 := hw
  refine lv_aload_n hx hb dX7_observe_5 rfl (lv_at hl 0 rfl) ?_
  refine lv_iload_n hx hb dX7_observe_6 rfl (lv_at hl 1 rfl) ?_
  refine kc_i (kr_V (As := [.int x]) (rest := []) hx hb hml hown hG (c_X7_isReceiver l D cy md (thr N 0) co su x) cf_X7_isReceiver wM_X7_115 hw.o rfl hw ⟨rfl, rfl, by decide, by decide⟩ rfl rfl (Nat.le_of_ble_eq_true rfl) ⟨Nat.le_of_ble_eq_true rfl, Nat.le_of_ble_eq_true rfl⟩ dX7_observe_7) ?_
  refine lv_if_ne (tgt := 19) hx hb dX7_observe_10 (by decide) (fun c_10 => ?_) (fun c_10 => ?_)
  · have c_10 : bI (pOut x 0 (nI nr - 1)) = 0 := by have h := mIs_t c_10; rw [show thr N 0 0 10 = nI nr from hN.2.2] at h; exact h
    obtain ⟨i, hi, ei⟩ := pOut_f (Nat.le_trans hL.2.2 (by decide)) c_10
    subst ei
    have hbi := Nat.lt_of_lt_of_le hi hL.2.2
    refine lv_aload_n hx hb dX7_observe_19 rfl (lv_at hl 0 rfl) ?_
    refine k_get (ci := 7) (C := RX7) (T := TX7) (N := 20) (v := .ref (md 4)) hx hb hown hG rfl kin_X7 hw.o 6 (by decide) wF_X7_20 rfl dX7_observe_20 ?_
    refine lv_iload_n hx hb dX7_observe_23 rfl (lv_at hl 1 rfl) ?_
    refine k_ald2 (v := (md (40 + i))) hx hb hG 5 rfl hw.a4 (vp_in_nI (n := i) hbi (by decide)) (mo_rc hbi) dX7_observe_24 ?_
    have hreT : mRef (thr N 0) := mRef_of (fun k hk => mset_n (by omega)) hre
    refine lv_astore_n (lv' := [(2, .ref (md (40 + i))), (0, .ref (md 0)), (1, .int (nI i))]) hx hb dX7_observe_25 rfl hl (by decide) rfl (fun ls hl => ?_)
    have hml : c.maxLocals = ls.size := hml9.trans hl.1.symm
    refine lv_aload_n hx hb dX7_observe_26 rfl (lv_at hl 0 rfl) ?_
    refine lv_bipush (v := 10) hx hb dX7_observe_27 (by decide) ?_
    refine k_iald (v := ((thr N 0 (40 + i)) 10)) hx hb hG (hw.rc hbi) (show vp_in (nI 10) 22 from vp_in_nI (by decide) (by decide)) (congrArg (thr N 0 (40 + i)) (clI 10 (by decide))) dX7_observe_29 ?_
    refine lv_aload_n hx hb dX7_observe_30 rfl (lv_at hl 1 rfl) ?_
    refine k_get (ci := 7) (C := RX7) (T := TX7) (N := 20) (v := .int ((thr N 0 0) 1)) hx hb hown hG rfl kin_X7 hw.o 1 (by decide) wF_X7_64 rfl dX7_observe_31 ?_
    refine lv_icmp_ne (tgt := 43) hx hb dX7_observe_34 (by decide) (fun c_34 => ?_) (fun c_34 => ?_)
    · have hriT : mRfI (thr N 0) i := mRfI_of hbi hreT (by rw [thr_n (by omega)]; exact hrs i hi)
      have jn69_1 : ∀ (nx : Int32), nx = mNx ((thr N 0) (40 + i)) ((thr N 0) 0 1) → ∀ ls : Array Slot, lv_has ls 10 [(2, .ref (md (40 + i))), (0, .ref (md 0)), (1, .int (nI i))] → W p l e ({ frames := 7, cells := 0, slots := 0, locals := 177 } : Room) s m ([.ref (md 0), .int (nI i)] : List Value).toArray below meth c H1 locs 0 0 (MQ below (UQi (MA md) (mOut D cy md N co su (kObsM (thr N 0) nr (nI i)) (fun r H => ∃ u, u < nr ∧ (nI i) = nI u ∧ r = mObsE (mObsZ (thr N 0) ns u co).1 u (40 + u) 17 ∧ MW D cy md (mObsE (mObsZ (thr N 0) ns u co).1 u) (mObsZ (thr N 0) ns u co).2 su H))) ([.ref (md 0), .int (nI i)] : List Value).toArray s 0 0 (MA md)) (F0 m 69 ls [.int nx]) := by
        intro nx enx ls hl
        have hml : c.maxLocals = ls.size := hml9.trans hl.1.symm
        refine lv_istore_n (lv' := [(3, .int nx), (2, .ref (md (40 + i))), (0, .ref (md 0)), (1, .int (nI i))]) hx hb dX7_observe_69 rfl hl (by decide) rfl (fun ls hl => ?_)
        have hml : c.maxLocals = ls.size := hml9.trans hl.1.symm
        have jn87_2 : ∀ (so : Int32), so = mSo ((thr N 0) (40 + i)) nx → ∀ ls : Array Slot, lv_has ls 10 [(3, .int nx), (2, .ref (md (40 + i))), (0, .ref (md 0)), (1, .int (nI i))] → W p l e ({ frames := 7, cells := 0, slots := 0, locals := 177 } : Room) s m ([.ref (md 0), .int (nI i)] : List Value).toArray below meth c H1 locs 0 0 (MQ below (UQi (MA md) (mOut D cy md N co su (kObsM (thr N 0) nr (nI i)) (fun r H => ∃ u, u < nr ∧ (nI i) = nI u ∧ r = mObsE (mObsZ (thr N 0) ns u co).1 u (40 + u) 17 ∧ MW D cy md (mObsE (mObsZ (thr N 0) ns u co).1 u) (mObsZ (thr N 0) ns u co).2 su H))) ([.ref (md 0), .int (nI i)] : List Value).toArray s 0 0 (MA md)) (F0 m 87 ls [.int so]) := by
          intro so eso ls hl
          have hml : c.maxLocals = ls.size := hml9.trans hl.1.symm
          refine lv_istore (lv' := [(4, .int so), (3, .int nx), (2, .ref (md (40 + i))), (0, .ref (md 0)), (1, .int (nI i))]) hx hb dX7_observe_87 hl (by decide) rfl (fun ls hl => ?_)
          have hml : c.maxLocals = ls.size := hml9.trans hl.1.symm
          refine lv_aload_n hx hb dX7_observe_89 rfl (lv_at hl 2 rfl) ?_
          refine lv_bipush (v := 12) hx hb dX7_observe_90 (by decide) ?_
          refine k_iald (v := ((thr N 0 (40 + i)) 12)) hx hb hG (hw.rc hbi) (show vp_in (nI 12) 22 from vp_in_nI (by decide) (by decide)) (congrArg (thr N 0 (40 + i)) (clI 12 (by decide))) dX7_observe_92 ?_
          refine lv_istore (lv' := [(5, .int ((thr N 0 (40 + i)) 12)), (4, .int so), (3, .int nx), (2, .ref (md (40 + i))), (0, .ref (md 0)), (1, .int (nI i))]) hx hb dX7_observe_93 hl (by decide) rfl (fun ls hl => ?_)
          have hml : c.maxLocals = ls.size := hml9.trans hl.1.symm
          refine lv_aload_n hx hb dX7_observe_95 rfl (lv_at hl 3 rfl) ?_
          refine lv_bipush (v := 13) hx hb dX7_observe_96 (by decide) ?_
          refine k_iald (v := ((thr N 0 (40 + i)) 13)) hx hb hG (hw.rc hbi) (show vp_in (nI 13) 22 from vp_in_nI (by decide) (by decide)) (congrArg (thr N 0 (40 + i)) (clI 13 (by decide))) dX7_observe_98 ?_
          refine lv_istore (lv' := [(6, .int ((thr N 0 (40 + i)) 13)), (5, .int ((thr N 0 (40 + i)) 12)), (4, .int so), (3, .int nx), (2, .ref (md (40 + i))), (0, .ref (md 0)), (1, .int (nI i))]) hx hb dX7_observe_99 hl (by decide) rfl (fun ls hl => ?_)
          have hml : c.maxLocals = ls.size := hml9.trans hl.1.symm
          refine lv_iconst (v := 0) hx hb dX7_observe_101 (by decide) ?_
          refine lv_istore (lv' := [(7, .int 0), (6, .int ((thr N 0 (40 + i)) 13)), (5, .int ((thr N 0 (40 + i)) 12)), (4, .int so), (3, .int nx), (2, .ref (md (40 + i))), (0, .ref (md 0)), (1, .int (nI i))]) hx hb dX7_observe_102 hl (by decide) rfl (fun ls hl => ?_)
          have hml : c.maxLocals = ls.size := hml9.trans hl.1.symm
          have lp104_3 : ∀ (n9 : Nat) (j : Nat) (P : Nat → Nat → Int32) (H : Heap) (locs : List Loc), ns + 1 - j ≤ n9 → j ≤ ns → MW D cy md P co su H → P = mSeeN (thr N 0) i nx j → va_S (MA md) s.heap H locs →  ∀ ls : Array Slot, lv_has ls 10 [(7, .int (nI j)), (6, .int ((thr N 0 (40 + i)) 13)), (5, .int ((thr N 0 (40 + i)) 12)), (4, .int so), (3, .int nx), (2, .ref (md (40 + i))), (0, .ref (md 0)), (1, .int (nI i))] → W p l e ({ frames := 7, cells := 0, slots := 0, locals := 177 } : Room) s m ([.ref (md 0), .int (nI i)] : List Value).toArray below meth c H locs 0 0 (MQ below (UQi (MA md) (mOut D cy md N co su (kObsM (thr N 0) nr (nI i)) (fun r H => ∃ u, u < nr ∧ (nI i) = nI u ∧ r = mObsE (mObsZ (thr N 0) ns u co).1 u (40 + u) 17 ∧ MW D cy md (mObsE (mObsZ (thr N 0) ns u co).1 u) (mObsZ (thr N 0) ns u co).2 su H))) ([.ref (md 0), .int (nI i)] : List Value).toArray s 0 0 (MA md)) (F0 m 104 ls []) := by
            intro n9
            induction n9 with
            | zero =>
              intro j P H locs h9
              intro hj; exact absurd h9 (by omega)
            | succ n9 ih9 =>
              intro j P H locs hn9 hj hw eP hS ls hl
              have hml : c.maxLocals = ls.size := hml9.trans hl.1.symm
              have hL1 := hL.1
              have ensP : P 0 8 = nI ns := by rw [eP, mSeeN_o _ _ _ _ (by omega)]; exact hN.1
              refine lv_iload hx hb dX7_observe_104 (lv_at hl 0 rfl) ?_
              refine lv_aload_n hx hb dX7_observe_106 rfl (lv_at hl 6 rfl) ?_
              refine k_get (ci := 7) (C := RX7) (T := TX7) (N := 20) (v := .int ((P 0) 8)) hx hb hown hG rfl kin_X7 hw.o 8 (by decide) wF_X7_79 rfl dX7_observe_107 ?_
              refine lv_icmp_ge (tgt := 127) hx hb dX7_observe_110 (by decide) (fun c_110 => ?_) (fun c_110 => ?_)
              · rw [ensP] at c_110
                have enj : j = ns := Nat.le_antisymm hj ((nI_leI (by omega) (by omega)).mp c_110)
                have hreP : mRef P := by rw [eP]; exact mSeeN_ref (by omega) hbi hreT
                have hriP : mRfI P i := mRfI_ow hbi (fun k1 h1 h2 => by rw [eP]; exact mSeeN_o _ _ _ _ (by omega)) hriT
                have eP : P = mSeeN (thr N 0) i nx ns := by rw [← enj]; exact eP
                refine lv_aload_n hx hb dX7_observe_127 rfl (lv_at hl 6 rfl) ?_
                refine lv_iload_n hx hb dX7_observe_128 rfl (lv_at hl 7 rfl) ?_
                refine lv_iconst (v := 1) hx hb dX7_observe_129 (by decide) ?_
                refine lv_iconst (v := (-1)) hx hb dX7_observe_130 (by decide) ?_
                refine kc_ui (kr_V (As := [.int (nI i), .int 1, .int (-1)]) (rest := []) hx hb hml hown hG (c_X7_lay l D cy md P co su hA ns hL.1 ensP hreP i hbi 1 (-1)) cf_X7_lay wM_X7_188 hw.o rfl hw ⟨rfl, rfl, by decide, by decide⟩ rfl rfl (Nat.le_of_ble_eq_true rfl) ⟨Nat.le_of_ble_eq_true rfl, Nat.le_of_ble_eq_true rfl⟩ dX7_observe_131) hS (fun _ h => h) (fun r_131 H1 locs hp1 z1 oq1 hS => ?_)
                obtain ⟨e9, hw⟩ := hp1
                subst e9
                obtain ⟨hok, hcn⟩ := mLay_ok P ns i 1 (-1) ns
                obtain ⟨L, eL⟩ : ∃ L, L = (mLay P ns i 1 (-1) ns).1 := ⟨_, rfl⟩
                obtain ⟨q, eq⟩ : ∃ q, q = (mLay P ns i 1 (-1) ns).2 := ⟨_, rfl⟩
                rw [← eL] at hw hok hcn
                rw [← eq] at hcn ⊢
                have hq8 : q ≤ ns := by rw [hcn]; exact wC_le L ns
                have hLk : ∀ k, (k < 6 ∨ 10 ≤ k) → L k = P k := fun k hk => by rw [eL, mLay_lo _ _ _ _ _ hk]
                have eOL : mObsL (thr N 0) ns i = (mLay P ns i 1 (-1) ns) := by unfold mObsL mObsP; rw [← enx, ← eP]
                have hriL : mRfI L i := mRfI_ow hbi (fun k h1 h2 => hLk k (Or.inr h1)) hriP
                refine lv_istore (lv' := [(7, .int (nI q)), (6, .int ((thr N 0 (40 + i)) 13)), (5, .int ((thr N 0 (40 + i)) 12)), (4, .int so), (3, .int nx), (2, .ref (md (40 + i))), (0, .ref (md 0)), (1, .int (nI i))]) hx hb dX7_observe_134 hl (by decide) rfl (fun ls hl => ?_)
                have hml : c.maxLocals = ls.size := hml9.trans hl.1.symm
                refine lv_iconst (v := 0) hx hb dX7_observe_136 (by decide) ?_
                refine lv_istore (lv' := [(8, .int 0), (7, .int (nI q)), (6, .int ((thr N 0 (40 + i)) 13)), (5, .int ((thr N 0 (40 + i)) 12)), (4, .int so), (3, .int nx), (2, .ref (md (40 + i))), (0, .ref (md 0)), (1, .int (nI i))]) hx hb dX7_observe_137 hl (by decide) rfl (fun ls hl => ?_)
                have hml : c.maxLocals = ls.size := hml9.trans hl.1.symm
                have lp139_4 : ∀ (n9 : Nat) (k : Nat) (U : Nat → Nat → Int32) (H : Heap) (locs : List Loc), ns + 1 - k ≤ n9 → k ≤ ns → MW D cy md U co su H → U = mUseN L ns i k → va_S (MA md) s.heap H locs →  ∀ ls : Array Slot, lv_has ls 10 [(8, .int (nI k)), (7, .int (nI q)), (6, .int ((thr N 0 (40 + i)) 13)), (5, .int ((thr N 0 (40 + i)) 12)), (4, .int so), (3, .int nx), (2, .ref (md (40 + i))), (0, .ref (md 0)), (1, .int (nI i))] → W p l e ({ frames := 7, cells := 0, slots := 0, locals := 177 } : Room) s m ([.ref (md 0), .int (nI i)] : List Value).toArray below meth c H locs 0 0 (MQ below (UQi (MA md) (mOut D cy md N co su (kObsM (thr N 0) nr (nI i)) (fun r H => ∃ u, u < nr ∧ (nI i) = nI u ∧ r = mObsE (mObsZ (thr N 0) ns u co).1 u (40 + u) 17 ∧ MW D cy md (mObsE (mObsZ (thr N 0) ns u co).1 u) (mObsZ (thr N 0) ns u co).2 su H))) ([.ref (md 0), .int (nI i)] : List Value).toArray s 0 0 (MA md)) (F0 m 139 ls []) := by
                  intro n9
                  induction n9 with
                  | zero =>
                    intro k U H locs h9
                    intro hk; exact absurd h9 (by omega)
                  | succ n9 ih9 =>
                    intro k U H locs hn9 hk hw eU hS ls hl
                    have hml : c.maxLocals = ls.size := hml9.trans hl.1.symm
                    have hUk : ∀ k1, (k1 < 60 + 8 * i ∨ 68 + 8 * i ≤ k1) → U k1 = L k1 := fun k1 h1 => by rw [eU]; exact mUseN_o L ns i k (by omega)
                    have eUK : U (60 + 8 * i + k) = L (60 + 8 * i + k) := by rw [eU]; exact mUseN_o L ns i k (by omega)
                    have ensU : U 0 8 = nI ns := by rw [hUk 0 (by omega), hLk 0 (by omega)]; exact ensP
                    refine lv_iload hx hb dX7_observe_139 (lv_at hl 0 rfl) ?_
                    refine lv_aload_n hx hb dX7_observe_141 rfl (lv_at hl 7 rfl) ?_
                    refine k_get (ci := 7) (C := RX7) (T := TX7) (N := 20) (v := .int ((U 0) 8)) hx hb hown hG rfl kin_X7 hw.o 8 (by decide) wF_X7_79 rfl dX7_observe_142 ?_
                    refine lv_icmp_ge (tgt := 238) hx hb dX7_observe_145 (by decide) (fun c_145 => ?_) (fun c_145 => ?_)
                    · rw [ensU] at c_145
                      have enk : k = ns := Nat.le_antisymm hk ((nI_leI (by omega) (by omega)).mp c_145)
                      refine lv_aload_n hx hb dX7_observe_238 rfl (lv_at hl 6 rfl) ?_
                      refine lv_bipush (v := 10) hx hb dX7_observe_239 (by decide) ?_
                      refine lv_aload_n hx hb dX7_observe_241 rfl (lv_at hl 7 rfl) ?_
                      refine k_get (ci := 7) (C := RX7) (T := TX7) (N := 20) (v := .int ((U 0) 1)) hx hb hown hG rfl kin_X7 hw.o 1 (by decide) wF_X7_64 rfl dX7_observe_242 ?_
                      refine k_iast hx hb hG (hw.rc hbi) hS (MA.i (mk_rc hbi)) (show vp_in (nI 10) 22 from vp_in_nI (by decide) (by decide)) dX7_observe_245 (fun H1 locs hP1 z1 oq1 hS => ?_)
                      rw [show Int32.toNatClampNeg 10 = 10 from clI 10 (by decide)] at hP1
                      have hw := hw.setI hA (mk_rc hbi) (ml_rc hbi) hP1 oq1
                      refine lv_aload_n hx hb dX7_observe_246 rfl (lv_at hl 6 rfl) ?_
                      refine lv_bipush (v := 11) hx hb dX7_observe_247 (by decide) ?_
                      refine lv_iload hx hb dX7_observe_249 (lv_at hl 1 rfl) ?_
                      refine k_iast hx hb hG (show va_P D vwCl [(md (40 + i), .inl (cy 0, 22, .inl (upd (U (40 + i)) 10 ((U 0) 1))))] _ from by have h := hw.rc hbi; rw [mset_s] at h; exact h) hS (MA.i (mk_rc hbi)) (show vp_in (nI 11) 22 from vp_in_nI (by decide) (by decide)) dX7_observe_251 (fun H1 locs hP1 z1 oq1 hS => ?_)
                      rw [show Int32.toNatClampNeg 11 = 11 from clI 11 (by decide)] at hP1
                      have hw := hw.setI hA (mk_rc hbi) (ml_rc hbi) hP1 oq1
                      rw [mset_mset] at hw
                      refine lv_aload_n hx hb dX7_observe_252 rfl (lv_at hl 7 rfl) ?_
                      refine lv_dup hx hb dX7_observe_253 rfl ?_
                      refine k_get (ci := 7) (C := RX7) (T := TX7) (N := 20) (v := .int ((U 0) 2)) hx hb hown hG rfl kin_X7 (show va_P D vwCl [(md 0, .inr (7, [.int ((U 0) 0), .int ((U 0) 1), .int ((U 0) 2), .ref (md 1), .ref (md 2), .ref (md 3), .ref (md 4), .ref (md 5), .int ((U 0) 8), .int ((U 0) 9), .int ((U 0) 10), .ref (md 6), .ref (md 7), .ref (md 8), .ref (md 9), .int ((U 0) 15), .int ((U 0) 16), .int ((U 0) 17), .long co, .long su]))] _ from by have h := hw.o; unfold mO at h; rw [mset_n (show (0 : Nat) ≠ 40 + i by omega)] at h; exact h) 2 (by decide) wF_X7_192 rfl dX7_observe_254 ?_
                      refine lv_iconst (v := 1) hx hb dX7_observe_257 (by decide) ?_
                      refine lv_iadd hx hb dX7_observe_258 ?_
                      refine k_put (ci := 7) (C := RX7) (T := TX7) (N := 20) (v := .int (((U 0) 2) + 1)) hx hb hown hG rfl kin_X7 tyX7 tyX7_ok nmX7 (show va_P D vwCl [(md 0, .inr (7, [.int ((U 0) 0), .int ((U 0) 1), .int ((U 0) 2), .ref (md 1), .ref (md 2), .ref (md 3), .ref (md 4), .ref (md 5), .int ((U 0) 8), .int ((U 0) 9), .int ((U 0) 10), .ref (md 6), .ref (md 7), .ref (md 8), .ref (md 9), .int ((U 0) 15), .int ((U 0) 16), .int ((U 0) 17), .long co, .long su]))] _ from by have h := hw.o; unfold mO at h; rw [mset_n (show (0 : Nat) ≠ 40 + i by omega)] at h; exact h) hS MA.o 2 (by decide) wF_X7_192 rfl rfl rfl (Nat.le_of_ble_eq_true rfl) dX7_observe_259 (fun H1 locs hP1 z1 oq1 hS => ?_)
                      have hw := hw.setO (r := (upd (U 0) 2 (((U 0) 2) + 1))) (c' := co) (s' := su) hA hP1 oq1
                      refine lv_aload_n hx hb dX7_observe_262 rfl (lv_at hl 6 rfl) ?_
                      refine lv_bipush (v := 16) hx hb dX7_observe_263 (by decide) ?_
                      refine lv_bipush (v := 99) hx hb dX7_observe_265 (by decide) ?_
                      refine k_iast hx hb hG (show va_P D vwCl [(md (40 + i), .inl (cy 0, 22, .inl (upd (upd (U (40 + i)) 10 ((U 0) 1)) 11 (nI q))))] _ from by have h := hw.rc hbi; rw [mset_n (show (40 + i : Nat) ≠ 0 by omega), mset_s] at h; exact h) hS (MA.i (mk_rc hbi)) (show vp_in (nI 16) 22 from vp_in_nI (by decide) (by decide)) dX7_observe_267 (fun H1 locs hP1 z1 oq1 hS => ?_)
                      rw [show Int32.toNatClampNeg 16 = 16 from clI 16 (by decide)] at hP1
                      have hw := hw.setI hA (mk_rc hbi) (ml_rc hbi) hP1 oq1
                      refine lv_aload_n hx hb dX7_observe_268 rfl (lv_at hl 6 rfl) ?_
                      refine lv_bipush (v := 17) hx hb dX7_observe_269 (by decide) ?_
                      refine lv_iconst (v := 1) hx hb dX7_observe_271 (by decide) ?_
                      refine k_iast hx hb hG (show va_P D vwCl [(md (40 + i), .inl (cy 0, 22, .inl (upd (upd (upd (U (40 + i)) 10 ((U 0) 1)) 11 (nI q)) 16 99)))] _ from by have h := hw.rc hbi; rw [mset_s] at h; exact h) hS (MA.i (mk_rc hbi)) (show vp_in (nI 17) 22 from vp_in_nI (by decide) (by decide)) dX7_observe_272 (fun H1 locs hP1 z1 oq1 hS => ?_)
                      rw [show Int32.toNatClampNeg 17 = 17 from clI 17 (by decide)] at hP1
                      have hw := hw.setI hA (mk_rc hbi) (ml_rc hbi) hP1 oq1
                      rw [mset_mset] at hw
                      have jn306_5 : ∀ (Z : Nat → Nat → Int32) (cz : Int64) (H : Heap) (locs : List Loc), MW D cy md Z cz su H → Z = (mObsZ (thr N 0) ns i co).1 → cz = (mObsZ (thr N 0) ns i co).2 → va_S (MA md) s.heap H locs → ∀ ls : Array Slot, lv_has ls 10 [(8, .int (nI k)), (7, .int (nI q)), (6, .int ((thr N 0 (40 + i)) 13)), (5, .int ((thr N 0 (40 + i)) 12)), (4, .int so), (3, .int nx), (2, .ref (md (40 + i))), (0, .ref (md 0)), (1, .int (nI i))] → W p l e ({ frames := 7, cells := 0, slots := 0, locals := 177 } : Room) s m ([.ref (md 0), .int (nI i)] : List Value).toArray below meth c H locs 0 0 (MQ below (UQi (MA md) (mOut D cy md N co su (kObsM (thr N 0) nr (nI i)) (fun r H => ∃ u, u < nr ∧ (nI i) = nI u ∧ r = mObsE (mObsZ (thr N 0) ns u co).1 u (40 + u) 17 ∧ MW D cy md (mObsE (mObsZ (thr N 0) ns u co).1 u) (mObsZ (thr N 0) ns u co).2 su H))) ([.ref (md 0), .int (nI i)] : List Value).toArray s 0 0 (MA md)) (F0 m 306 ls []) := by
                        intro Z cz H locs hw eZ ecz hS ls hl
                        have hml : c.maxLocals = ls.size := hml9.trans hl.1.symm
                        refine lv_aload_n hx hb dX7_observe_306 rfl (lv_at hl 6 rfl) ?_
                        refine lv_bipush (v := 17) hx hb dX7_observe_307 (by decide) ?_
                        refine k_iald (v := ((Z (40 + i)) 17)) hx hb hG (hw.rc hbi) (show vp_in (nI 17) 22 from vp_in_nI (by decide) (by decide)) (congrArg (Z (40 + i)) (clI 17 (by decide))) dX7_observe_309 ?_
                        refine lv_if_le (tgt := 321) hx hb dX7_observe_310 (by decide) (fun c_310 => ?_) (fun c_310 => ?_)
                        · refine lv_aload_n hx hb dX7_observe_321 rfl (lv_at hl 6 rfl) ?_
                          refine lv_bipush (v := 17) hx hb dX7_observe_322 (by decide) ?_
                          refine k_iald (v := ((Z (40 + i)) 17)) hx hb hG (hw.rc hbi) (show vp_in (nI 17) 22 from vp_in_nI (by decide) (by decide)) (congrArg (Z (40 + i)) (clI 17 (by decide))) dX7_observe_324 ?_
                          exact ke_ui hx hb hr hlk hS dX7_observe_325 (Or.inr (Or.inr ⟨by unfold kObsM; rw [if_pos c_10, nI_clamp (by have := hbi; omega), if_neg c_34], i, hi, rfl, (by unfold mObsE; rw [← eZ, if_pos c_310]), (by unfold mObsE; rw [← eZ, ← ecz, if_pos c_310]; exact hw)⟩))
                        · refine lv_aload_n hx hb dX7_observe_313 rfl (lv_at hl 6 rfl) ?_
                          refine lv_bipush (v := 19) hx hb dX7_observe_314 (by decide) ?_
                          refine lv_aload_n hx hb dX7_observe_316 rfl (lv_at hl 7 rfl) ?_
                          refine k_get (ci := 7) (C := RX7) (T := TX7) (N := 20) (v := .int ((Z 0) 1)) hx hb hown hG rfl kin_X7 hw.o 1 (by decide) wF_X7_64 rfl dX7_observe_317 ?_
                          refine k_iast hx hb hG (hw.rc hbi) hS (MA.i (mk_rc hbi)) (show vp_in (nI 19) 22 from vp_in_nI (by decide) (by decide)) dX7_observe_320 (fun H1 locs hP1 z1 oq1 hS => ?_)
                          rw [show Int32.toNatClampNeg 19 = 19 from clI 19 (by decide)] at hP1
                          have hw := hw.setI hA (mk_rc hbi) (ml_rc hbi) hP1 oq1
                          refine lv_aload_n hx hb dX7_observe_321 rfl (lv_at hl 6 rfl) ?_
                          refine lv_bipush (v := 17) hx hb dX7_observe_322 (by decide) ?_
                          refine k_iald (v := ((upd (Z (40 + i)) 19 ((Z 0) 1)) 17)) hx hb hG (show va_P D vwCl [(md (40 + i), .inl (cy 0, 22, .inl (upd (Z (40 + i)) 19 ((Z 0) 1))))] _ from by have h := hw.rc hbi; rw [mset_s] at h; exact h) (show vp_in (nI 17) 22 from vp_in_nI (by decide) (by decide)) (congrArg (upd (Z (40 + i)) 19 ((Z 0) 1)) (clI 17 (by decide))) dX7_observe_324 ?_
                          exact ke_ui hx hb hr hlk hS dX7_observe_325 (Or.inr (Or.inr ⟨by unfold kObsM; rw [if_pos c_10, nI_clamp (by have := hbi; omega), if_neg c_34], i, hi, rfl, (by unfold mObsE; rw [← eZ, if_neg c_310, mset_s]), (by unfold mObsE; rw [← eZ, ← ecz, if_neg c_310]; exact hw)⟩))
                      obtain ⟨W1, eW1⟩ : ∃ W1, W1 = mObs1 U i (nI q) := ⟨_, rfl⟩
                      have hw : MW D cy md W1 co su H1 := by rw [eW1]; exact hw
                      have eOW : mObsW (thr N 0) ns i = W1 := by unfold mObsW mObsU; rw [eOL, ← eL, ← eq, eW1, eU, enk]
                      have eOM : mObsM (thr N 0) ns i = nI q := by unfold mObsM; rw [eOL, ← eq]
                      have hW9 : W1 9 = L 9 := by rw [eW1]; unfold mObs1; rw [mset_n (by omega), mset_n (by omega), mset_n (by omega), hUk 9 (by omega)]
                      have ensW : W1 0 8 = nI ns := by rw [eW1]; unfold mObs1; rw [mset_n (show (0 : Nat) ≠ 40 + i by omega), mset_s]; exact ensU
                      have hokW : WOK W1 ns := fun j hj => by rw [hW9]; exact hok j hj
                      have hcnW : q = wC W1 ns := by rw [hcn]; exact (wC_eq (fun j hj => by rw [hW9])).symm
                      refine lv_iload hx hb dX7_observe_273 (lv_at hl 1 rfl) ?_
                      refine lv_iconst (v := 3) hx hb dX7_observe_275 (by decide) ?_
                      refine lv_icmp_lt (tgt := 306) hx hb dX7_observe_276 (by decide) (fun c_276 => ?_) (fun c_276 => ?_)
                      · exact jn306_5 _ _ _ _ hw (by unfold mObsZ; rw [eOM, if_pos c_276, eOW]) (by unfold mObsZ; rw [eOM, if_pos c_276]) hS ls (lv_sub hl [0, 1, 2, 3, 4, 5, 6, 7, 8] rfl)
                      · have hq3 : 3 ≤ q := (nI_leI (by decide) (by omega)).mp (show nI 3 ≤ nI q from Int32.not_lt.mp c_276)
                        refine lv_aload_n hx hb dX7_observe_279 rfl (lv_at hl 7 rfl) ?_
                        refine lv_iload_n hx hb dX7_observe_280 rfl (lv_at hl 8 rfl) ?_
                        refine lv_iload hx hb dX7_observe_281 (lv_at hl 1 rfl) ?_
                        have jn299_6 : ∀ (n4 : Int32), n4 = mN4 so (nI q) → ∀ ls : Array Slot, lv_has ls 10 [(8, .int (nI k)), (7, .int (nI q)), (6, .int ((thr N 0 (40 + i)) 13)), (5, .int ((thr N 0 (40 + i)) 12)), (4, .int so), (3, .int nx), (2, .ref (md (40 + i))), (0, .ref (md 0)), (1, .int (nI i))] → W p l e ({ frames := 7, cells := 0, slots := 0, locals := 177 } : Room) s m ([.ref (md 0), .int (nI i)] : List Value).toArray below meth c H1 locs 0 0 (MQ below (UQi (MA md) (mOut D cy md N co su (kObsM (thr N 0) nr (nI i)) (fun r H => ∃ u, u < nr ∧ (nI i) = nI u ∧ r = mObsE (mObsZ (thr N 0) ns u co).1 u (40 + u) 17 ∧ MW D cy md (mObsE (mObsZ (thr N 0) ns u co).1 u) (mObsZ (thr N 0) ns u co).2 su H))) ([.ref (md 0), .int (nI i)] : List Value).toArray s 0 0 (MA md)) (F0 m 299 ls [.int n4, .int (nI q), .int (nI i), .ref (md 0)]) := by
                          intro n4 en4 ls hl
                          have hml : c.maxLocals = ls.size := hml9.trans hl.1.symm
                          refine lv_iload hx hb dX7_observe_299 (lv_at hl 3 rfl) ?_
                          refine lv_iload hx hb dX7_observe_301 (lv_at hl 2 rfl) ?_
                          refine kc_uv (kr_V (As := [.int (nI i), .int (nI q), .int n4, .int ((thr N 0 (40 + i)) 12), .int ((thr N 0 (40 + i)) 13)]) (rest := []) hx hb hml hown hG (c_X7_place l D cy md W1 co su hA ns hL.1 ensW i hbi q hokW hq3 hcnW n4 ((thr N 0 (40 + i)) 12) ((thr N 0 (40 + i)) 13)) cf_X7_place wM_X7_195 hw.o rfl hw ⟨rfl, rfl, by decide, by decide⟩ rfl rfl (Nat.le_of_ble_eq_true rfl) ⟨Nat.le_of_ble_eq_true rfl, Nat.le_of_ble_eq_true rfl⟩ dX7_observe_303) hS (fun _ h => h) (fun H1 locs hp1 z1 oq1 hS => ?_)
                          have hw := hp1
                          exact jn306_5 _ _ _ _ hw (by unfold mObsZ; rw [eOM, if_neg c_276, eOW]; show _ = mPlN W1 ns i (nI q) (mObsN4 (thr N 0) ns i) _ _ co; unfold mObsN4; rw [eOM, ← enx, ← eso, ← en4]) (by unfold mObsZ; rw [eOM, if_neg c_276, eOW]) hS ls (lv_sub hl [0, 1, 2, 3, 4, 5, 6, 7, 8] rfl)
                        refine lv_iload hx hb dX7_observe_283 (lv_at hl 4 rfl) ?_
                        refine lv_if_eq (tgt := 298) hx hb dX7_observe_285 (by decide) (fun c_285 => ?_) (fun c_285 => ?_)
                        · refine lv_iconst (v := 0) hx hb dX7_observe_298 (by decide) ?_
                          exact jn299_6 0 (by unfold mN4; rw [if_pos c_285]) ls (lv_sub hl [0, 1, 2, 3, 4, 5, 6, 7, 8] rfl)
                        · refine lv_iload hx hb dX7_observe_288 (lv_at hl 1 rfl) ?_
                          refine lv_iconst (v := 4) hx hb dX7_observe_290 (by decide) ?_
                          refine lv_icmp_lt (tgt := 298) hx hb dX7_observe_291 (by decide) (fun c_291 => ?_) (fun c_291 => ?_)
                          · refine lv_iconst (v := 0) hx hb dX7_observe_298 (by decide) ?_
                            exact jn299_6 0 (by unfold mN4; rw [if_neg c_285, if_pos c_291]) ls (lv_sub hl [0, 1, 2, 3, 4, 5, 6, 7, 8] rfl)
                          · refine lv_iconst (v := 1) hx hb dX7_observe_294 (by decide) ?_
                            refine lv_goto (tgt := 299) hx hb dX7_observe_295 (by decide) ?_
                            exact jn299_6 1 (by unfold mN4; rw [if_neg c_285, if_neg c_291]) ls (lv_sub hl [0, 1, 2, 3, 4, 5, 6, 7, 8] rfl)
                    · rw [ensU] at c_145
                      have hltk : k < ns := by
                        rcases Nat.lt_or_ge k ns with q | q
                        · exact q
                        · exact absurd (nI_le q (by omega)) c_145
                      have hlt8k : k < 8 := Nat.lt_of_lt_of_le hltk hL.1
                      refine lv_aload_n hx hb dX7_observe_148 rfl (lv_at hl 7 rfl) ?_
                      refine k_get (ci := 7) (C := RX7) (T := TX7) (N := 20) (v := .ref (md 9)) hx hb hown hG rfl kin_X7 hw.o 14 (by decide) wF_X7_38 rfl dX7_observe_149 ?_
                      refine lv_iload hx hb dX7_observe_152 (lv_at hl 0 rfl) ?_
                      refine k_iald (v := ((U 9) k)) hx hb hG (hw.wt) (vp_in_nI (n := k) hlt8k (by decide)) (congrArg (U 9) (nI_clamp (by have := hlt8k; omega))) dX7_observe_154 ?_
                      refine lv_if_ne (tgt := 161) hx hb dX7_observe_155 (by decide) (fun c_155 => ?_) (fun c_155 => ?_)
                      · have c_155 : ¬ L 9 k = 0 := by rw [← hUk 9 (by omega)]; exact c_155
                        refine lv_aload_n hx hb dX7_observe_161 rfl (lv_at hl 7 rfl) ?_
                        refine k_get (ci := 7) (C := RX7) (T := TX7) (N := 20) (v := .ref (md 5)) hx hb hown hG rfl kin_X7 hw.o 7 (by decide) wF_X7_25 rfl dX7_observe_162 ?_
                        refine lv_iload_n hx hb dX7_observe_165 rfl (lv_at hl 8 rfl) ?_
                        refine k_ald2 (v := (md (50 + i))) hx hb hG 6 rfl hw.a5 (vp_in_nI (n := i) hbi (by decide)) (mo_ro hbi) dX7_observe_166 ?_
                        refine lv_iload hx hb dX7_observe_167 (lv_at hl 0 rfl) ?_
                        refine k_ald2 (v := (md (60 + 8 * i + k))) hx hb hG 5 rfl (hw.ro hbi) (vp_in_nI (n := k) hlt8k (by decide)) (mo_rw (i := i) hlt8k) dX7_observe_169 ?_
                        refine lv_astore (lv' := [(9, .ref (md (60 + 8 * i + k))), (8, .int (nI k)), (7, .int (nI q)), (6, .int ((thr N 0 (40 + i)) 13)), (5, .int ((thr N 0 (40 + i)) 12)), (4, .int so), (3, .int nx), (2, .ref (md (40 + i))), (0, .ref (md 0)), (1, .int (nI i))]) hx hb dX7_observe_170 hl (by decide) rfl (fun ls hl => ?_)
                        have hml : c.maxLocals = ls.size := hml9.trans hl.1.symm
                        refine lv_aload hx hb dX7_observe_172 (lv_at hl 0 rfl) ?_
                        refine lv_bipush (v := 6) hx hb dX7_observe_174 (by decide) ?_
                        refine lv_iconst (v := 1) hx hb dX7_observe_176 (by decide) ?_
                        refine k_iast hx hb hG (hw.rw hbi hlt8k) hS (MA.i (mk_rw hbi hlt8k)) (show vp_in (nI 6) 12 from vp_in_nI (by decide) (by decide)) dX7_observe_177 (fun H1 locs hP1 z1 oq1 hS => ?_)
                        rw [show Int32.toNatClampNeg 6 = 6 from clI 6 (by decide)] at hP1
                        have hw := hw.setI hA (mk_rw hbi hlt8k) (ml_rw hbi hlt8k) hP1 oq1
                        refine lv_aload hx hb dX7_observe_178 (lv_at hl 0 rfl) ?_
                        refine lv_bipush (v := 7) hx hb dX7_observe_180 (by decide) ?_
                        refine lv_aload_n hx hb dX7_observe_182 rfl (lv_at hl 8 rfl) ?_
                        refine lv_iload_n hx hb dX7_observe_183 rfl (lv_at hl 9 rfl) ?_
                        refine lv_iload hx hb dX7_observe_184 (lv_at hl 1 rfl) ?_
                        refine kc_i (kr_V (As := [.int (nI i), .int (nI k)]) (rest := [.int 7, .ref (md (60 + 8 * i + k))]) hx hb hml hown hG (c_X7_correctionB l D cy md (mset U (60 + 8 * i + k) (upd (U (60 + 8 * i + k)) 6 1)) co su ns hL.1 (by rw [mset_n (by omega)]; exact ensU) i k (mRfI_ow hbi (fun k1 h1 h2 => by rw [mset_n (by omega)]; exact hUk k1 h2) hriL) hbi hlt8k) cf_X7_correction wM_X7_176 (show va_P D vwCl [(md 0, .inr (7, [.int ((U 0) 0), .int ((U 0) 1), .int ((U 0) 2), .ref (md 1), .ref (md 2), .ref (md 3), .ref (md 4), .ref (md 5), .int ((U 0) 8), .int ((U 0) 9), .int ((U 0) 10), .ref (md 6), .ref (md 7), .ref (md 8), .ref (md 9), .int ((U 0) 15), .int ((U 0) 16), .int ((U 0) 17), .long co, .long su]))] _ from by have h := hw.o; unfold mO at h; rw [mset_n (show (0 : Nat) ≠ 60 + 8 * i + k by omega)] at h; exact h) rfl hw ⟨rfl, rfl, by decide, by decide⟩ rfl rfl (Nat.le_of_ble_eq_true rfl) ⟨Nat.le_of_ble_eq_true rfl, Nat.le_of_ble_eq_true rfl⟩ dX7_observe_186) ?_
                        refine lv_topi (fun cr ecr => ?_)
                        have ecr : cr = mCorr L ns i k := by rw [ecr]; exact mCorr_ow hL.1 hbi hlt8k (by rw [mset_n (by omega), hUk 0 (by omega)]) (fun k1 h1 h2 => by rw [mset_n (by omega)]; exact hUk k1 h2) hriL
                        refine k_iast hx hb hG (show va_P D vwCl [(md (60 + 8 * i + k), .inl (cy 0, 12, .inl (upd (U (60 + 8 * i + k)) 6 1)))] _ from by have h := hw.rw hbi hlt8k; rw [mset_s] at h; exact h) hS (MA.i (mk_rw hbi hlt8k)) (show vp_in (nI 7) 12 from vp_in_nI (by decide) (by decide)) dX7_observe_189 (fun H1 locs hP1 z1 oq1 hS => ?_)
                        rw [show Int32.toNatClampNeg 7 = 7 from clI 7 (by decide)] at hP1
                        have hw := hw.setI hA (mk_rw hbi hlt8k) (ml_rw hbi hlt8k) hP1 oq1
                        rw [mset_mset] at hw
                        refine lv_aload hx hb dX7_observe_190 (lv_at hl 0 rfl) ?_
                        refine lv_bipush (v := 10) hx hb dX7_observe_192 (by decide) ?_
                        refine lv_aload_n hx hb dX7_observe_194 rfl (lv_at hl 8 rfl) ?_
                        refine k_get (ci := 7) (C := RX7) (T := TX7) (N := 20) (v := .ref (md 8)) hx hb hown hG rfl kin_X7 (show va_P D vwCl [(md 0, .inr (7, [.int ((U 0) 0), .int ((U 0) 1), .int ((U 0) 2), .ref (md 1), .ref (md 2), .ref (md 3), .ref (md 4), .ref (md 5), .int ((U 0) 8), .int ((U 0) 9), .int ((U 0) 10), .ref (md 6), .ref (md 7), .ref (md 8), .ref (md 9), .int ((U 0) 15), .int ((U 0) 16), .int ((U 0) 17), .long co, .long su]))] _ from by have h := hw.o; unfold mO at h; rw [mset_n (show (0 : Nat) ≠ 60 + 8 * i + k by omega)] at h; exact h) 13 (by decide) wF_X7_35 rfl dX7_observe_195 ?_
                        refine lv_iload hx hb dX7_observe_198 (lv_at hl 1 rfl) ?_
                        refine k_iald (v := ((U 8) k)) hx hb hG (show va_P D vwCl [(md 8, .inl (cy 0, 8, .inl (U 8)))] _ from by have h := hw.ps; rw [mset_n (show (8 : Nat) ≠ 60 + 8 * i + k by omega)] at h; exact h) (vp_in_nI (n := k) hlt8k (by decide)) (congrArg (U 8) (nI_clamp (by have := hlt8k; omega))) dX7_observe_200 ?_
                        refine lv_aload hx hb dX7_observe_201 (lv_at hl 0 rfl) ?_
                        refine lv_bipush (v := 7) hx hb dX7_observe_203 (by decide) ?_
                        refine k_iald (v := cr) hx hb hG (show va_P D vwCl [(md (60 + 8 * i + k), .inl (cy 0, 12, .inl (upd (upd (U (60 + 8 * i + k)) 6 1) 7 cr)))] _ from by have h := hw.rw hbi hlt8k; rw [mset_s] at h; exact h) (show vp_in (nI 7) 12 from vp_in_nI (by decide) (by decide)) (congrArg (upd (upd (U (60 + 8 * i + k)) 6 1) 7 cr) (clI 7 (by decide))) dX7_observe_205 ?_
                        refine lv_iadd hx hb dX7_observe_206 ?_
                        refine lv_aload_n hx hb dX7_observe_207 rfl (lv_at hl 7 rfl) ?_
                        refine lv_iconst (v := 0) hx hb dX7_observe_208 (by decide) ?_
                        refine k_iald (v := ((U (40 + i)) 0)) hx hb hG (show va_P D vwCl [(md (40 + i), .inl (cy 0, 22, .inl (U (40 + i))))] _ from by have h := hw.rc hbi; rw [mset_n (show (40 + i : Nat) ≠ 60 + 8 * i + k by omega)] at h; exact h) (show vp_in (nI 0) 22 from vp_in_nI (by decide) (by decide)) (congrArg (U (40 + i)) (clI 0 (by decide))) dX7_observe_209 ?_
                        refine lv_aload_n hx hb dX7_observe_210 rfl (lv_at hl 7 rfl) ?_
                        refine lv_iconst (v := 1) hx hb dX7_observe_211 (by decide) ?_
                        refine k_iald (v := ((U (40 + i)) 1)) hx hb hG (show va_P D vwCl [(md (40 + i), .inl (cy 0, 22, .inl (U (40 + i))))] _ from by have h := hw.rc hbi; rw [mset_n (show (40 + i : Nat) ≠ 60 + 8 * i + k by omega)] at h; exact h) (show vp_in (nI 1) 22 from vp_in_nI (by decide) (by decide)) (congrArg (U (40 + i)) (clI 1 (by decide))) dX7_observe_212 ?_
                        refine lv_aload_n hx hb dX7_observe_213 rfl (lv_at hl 8 rfl) ?_
                        refine k_get (ci := 7) (C := RX7) (T := TX7) (N := 20) (v := .ref (md 6)) hx hb hown hG rfl kin_X7 (show va_P D vwCl [(md 0, .inr (7, [.int ((U 0) 0), .int ((U 0) 1), .int ((U 0) 2), .ref (md 1), .ref (md 2), .ref (md 3), .ref (md 4), .ref (md 5), .int ((U 0) 8), .int ((U 0) 9), .int ((U 0) 10), .ref (md 6), .ref (md 7), .ref (md 8), .ref (md 9), .int ((U 0) 15), .int ((U 0) 16), .int ((U 0) 17), .long co, .long su]))] _ from by have h := hw.o; unfold mO at h; rw [mset_n (show (0 : Nat) ≠ 60 + 8 * i + k by omega)] at h; exact h) 11 (by decide) wF_X7_28 rfl dX7_observe_214 ?_
                        refine lv_iload hx hb dX7_observe_217 (lv_at hl 1 rfl) ?_
                        refine k_iald (v := ((U 6) k)) hx hb hG (show va_P D vwCl [(md 6, .inl (cy 0, 8, .inl (U 6)))] _ from by have h := hw.sx; rw [mset_n (show (6 : Nat) ≠ 60 + 8 * i + k by omega)] at h; exact h) (vp_in_nI (n := k) hlt8k (by decide)) (congrArg (U 6) (nI_clamp (by have := hlt8k; omega))) dX7_observe_219 ?_
                        refine lv_aload_n hx hb dX7_observe_220 rfl (lv_at hl 8 rfl) ?_
                        refine k_get (ci := 7) (C := RX7) (T := TX7) (N := 20) (v := .ref (md 7)) hx hb hown hG rfl kin_X7 (show va_P D vwCl [(md 0, .inr (7, [.int ((U 0) 0), .int ((U 0) 1), .int ((U 0) 2), .ref (md 1), .ref (md 2), .ref (md 3), .ref (md 4), .ref (md 5), .int ((U 0) 8), .int ((U 0) 9), .int ((U 0) 10), .ref (md 6), .ref (md 7), .ref (md 8), .ref (md 9), .int ((U 0) 15), .int ((U 0) 16), .int ((U 0) 17), .long co, .long su]))] _ from by have h := hw.o; unfold mO at h; rw [mset_n (show (0 : Nat) ≠ 60 + 8 * i + k by omega)] at h; exact h) 12 (by decide) wF_X7_32 rfl dX7_observe_221 ?_
                        refine lv_iload hx hb dX7_observe_224 (lv_at hl 1 rfl) ?_
                        refine k_iald (v := ((U 7) k)) hx hb hG (show va_P D vwCl [(md 7, .inl (cy 0, 8, .inl (U 7)))] _ from by have h := hw.sy; rw [mset_n (show (7 : Nat) ≠ 60 + 8 * i + k by omega)] at h; exact h) (vp_in_nI (n := k) hlt8k (by decide)) (congrArg (U 7) (nI_clamp (by have := hlt8k; omega))) dX7_observe_226 ?_
                        refine kc_i (kr_S (As := [.int ((U (40 + i)) 0), .int ((U (40 + i)) 1), .int ((U 6) k), .int ((U 7) k)]) (rest := [.int (((U 8) k) + cr), .int 10, .ref (md (60 + 8 * i + k))]) hx hb hml hown hG (c_X7_range l D cy ((U (40 + i)) 0) ((U (40 + i)) 1) ((U 6) k) ((U 7) k)) cf_X7_range wM_X7_118 trivial ⟨rfl, rfl, by decide, by decide⟩ rfl rfl (Nat.le_of_ble_eq_true rfl) ⟨Nat.le_of_ble_eq_true rfl, Nat.le_of_ble_eq_true rfl⟩ dX7_observe_227) ?_
                        refine lv_isub hx hb dX7_observe_230 ?_
                        refine k_iast hx hb hG (show va_P D vwCl [(md (60 + 8 * i + k), .inl (cy 0, 12, .inl (upd (upd (U (60 + 8 * i + k)) 6 1) 7 cr)))] _ from by have h := hw.rw hbi hlt8k; rw [mset_s] at h; exact h) hS (MA.i (mk_rw hbi hlt8k)) (show vp_in (nI 10) 12 from vp_in_nI (by decide) (by decide)) dX7_observe_231 (fun H1 locs hP1 z1 oq1 hS => ?_)
                        rw [show Int32.toNatClampNeg 10 = 10 from clI 10 (by decide)] at hP1
                        have hw := hw.setI hA (mk_rw hbi hlt8k) (ml_rw hbi hlt8k) hP1 oq1
                        rw [mset_mset] at hw
                        refine lv_iinc (v := (nI (k + 1))) (lv' := [(8, .int (nI (k + 1))), (9, .ref (md (60 + 8 * i + k))), (7, .int (nI q)), (6, .int ((thr N 0 (40 + i)) 13)), (5, .int ((thr N 0 (40 + i)) 12)), (4, .int so), (3, .int nx), (2, .ref (md (40 + i))), (0, .ref (md 0)), (1, .int (nI i))]) hx hb dX7_observe_232 hl (k := 1) rfl ((nI_succ k).symm) (by decide) rfl (fun ls hl => ?_)
                        have hml : c.maxLocals = ls.size := hml9.trans hl.1.symm
                        refine lv_goto (tgt := 139) hx hb dX7_observe_235 (by decide) ?_
                        exact ih9 (k + 1) _ _ _ (by omega) hltk hw (by rw [mUseN_s, if_neg c_155, ← eU]; unfold mUseRow; rw [← ecr, ← eUK, ← hUk 8 (by omega), ← hUk 6 (by omega), ← hUk 7 (by omega), ← hUk (40 + i) (by omega)]) hS ls (lv_sub hl [0, 2, 3, 4, 5, 6, 7, 8, 9] rfl)
                      · have c_155 : L 9 k = 0 := by rw [← hUk 9 (by omega)]; exact c_155
                        refine lv_goto (tgt := 232) hx hb dX7_observe_158 (by decide) ?_
                        refine lv_iinc (v := (nI (k + 1))) (lv' := [(8, .int (nI (k + 1))), (7, .int (nI q)), (6, .int ((thr N 0 (40 + i)) 13)), (5, .int ((thr N 0 (40 + i)) 12)), (4, .int so), (3, .int nx), (2, .ref (md (40 + i))), (0, .ref (md 0)), (1, .int (nI i))]) hx hb dX7_observe_232 hl (k := 0) rfl ((nI_succ k).symm) (by decide) rfl (fun ls hl => ?_)
                        have hml : c.maxLocals = ls.size := hml9.trans hl.1.symm
                        refine lv_goto (tgt := 139) hx hb dX7_observe_235 (by decide) ?_
                        exact ih9 (k + 1) _ _ _ (by omega) hltk hw (by rw [mUseN_s, if_pos c_155]; exact eU) hS ls (lv_sub hl [0, 1, 2, 3, 4, 5, 6, 7, 8] rfl)
                exact lp139_4 (ns + 1) 0 _ _ _ (Nat.le_refl _) (Nat.zero_le _) hw (by rw [mUseN_0]) hS ls (lv_sub hl [0, 1, 2, 3, 4, 5, 6, 7, 8] rfl)
              · rw [ensP] at c_110
                have hltj : j < ns := by
                  rcases Nat.lt_or_ge j ns with q | q
                  · exact q
                  · exact absurd (nI_le q (by omega)) c_110
                have hlt8j : j < 8 := Nat.lt_of_lt_of_le hltj hL.1
                refine lv_aload_n hx hb dX7_observe_113 rfl (lv_at hl 6 rfl) ?_
                refine lv_iload_n hx hb dX7_observe_114 rfl (lv_at hl 7 rfl) ?_
                refine lv_iload hx hb dX7_observe_115 (lv_at hl 0 rfl) ?_
                refine lv_iload_n hx hb dX7_observe_117 rfl (lv_at hl 4 rfl) ?_
                refine kc_uv (kr_V (As := [.int (nI i), .int (nI j), .int nx]) (rest := []) hx hb hml hown hG (c_X7_see l D cy md P co su hA i j hbi hlt8j nx) cf_X7_see wM_X7_184 hw.o rfl hw ⟨rfl, rfl, by decide, by decide⟩ rfl rfl (Nat.le_of_ble_eq_true rfl) ⟨Nat.le_of_ble_eq_true rfl, Nat.le_of_ble_eq_true rfl⟩ dX7_observe_118) hS (fun _ h => h) (fun H1 locs hp1 z1 oq1 hS => ?_)
                have hw := hp1
                refine lv_iinc (v := (nI (j + 1))) (lv' := [(7, .int (nI (j + 1))), (6, .int ((thr N 0 (40 + i)) 13)), (5, .int ((thr N 0 (40 + i)) 12)), (4, .int so), (3, .int nx), (2, .ref (md (40 + i))), (0, .ref (md 0)), (1, .int (nI i))]) hx hb dX7_observe_121 hl (k := 0) rfl ((nI_succ j).symm) (by decide) rfl (fun ls hl => ?_)
                have hml : c.maxLocals = ls.size := hml9.trans hl.1.symm
                refine lv_goto (tgt := 104) hx hb dX7_observe_124 (by decide) ?_
                exact ih9 (j + 1) _ _ _ (by omega) hltj hw (by rw [mSeeN_s, ← eP]) hS ls (lv_sub hl [0, 1, 2, 3, 4, 5, 6, 7] rfl)
          exact lp104_3 (ns + 1) 0 _ _ _ (Nat.le_refl _) (Nat.zero_le _) hw (by rw [mSeeN_0]) hS ls (lv_sub hl [0, 1, 2, 3, 4, 5, 6, 7] rfl)
        refine lv_iload_n hx hb dX7_observe_70 rfl (lv_at hl 0 rfl) ?_
        refine lv_if_eq (tgt := 86) hx hb dX7_observe_71 (by decide) (fun c_71 => ?_) (fun c_71 => ?_)
        · refine lv_iconst (v := 0) hx hb dX7_observe_86 (by decide) ?_
          exact jn87_2 0 (by unfold mSo; rw [if_pos c_71]) ls (lv_sub hl [0, 1, 2, 3] rfl)
        · refine lv_aload_n hx hb dX7_observe_74 rfl (lv_at hl 1 rfl) ?_
          refine lv_bipush (v := 11) hx hb dX7_observe_75 (by decide) ?_
          refine k_iald (v := ((thr N 0 (40 + i)) 11)) hx hb hG (hw.rc hbi) (show vp_in (nI 11) 22 from vp_in_nI (by decide) (by decide)) (congrArg (thr N 0 (40 + i)) (clI 11 (by decide))) dX7_observe_77 ?_
          refine lv_iconst (v := 3) hx hb dX7_observe_78 (by decide) ?_
          refine lv_icmp_lt (tgt := 86) hx hb dX7_observe_79 (by decide) (fun c_79 => ?_) (fun c_79 => ?_)
          · refine lv_iconst (v := 0) hx hb dX7_observe_86 (by decide) ?_
            exact jn87_2 0 (by unfold mSo; rw [if_neg c_71, if_pos c_79]) ls (lv_sub hl [0, 1, 2, 3] rfl)
          · refine lv_iconst (v := 1) hx hb dX7_observe_82 (by decide) ?_
            refine lv_goto (tgt := 87) hx hb dX7_observe_83 (by decide) ?_
            exact jn87_2 1 (by unfold mSo; rw [if_neg c_71, if_neg c_79]) ls (lv_sub hl [0, 1, 2, 3] rfl)
      refine lv_aload_n hx hb dX7_observe_43 rfl (lv_at hl 0 rfl) ?_
      refine lv_bipush (v := 10) hx hb dX7_observe_44 (by decide) ?_
      refine k_iald (v := ((thr N 0 (40 + i)) 10)) hx hb hG (hw.rc hbi) (show vp_in (nI 10) 22 from vp_in_nI (by decide) (by decide)) (congrArg (thr N 0 (40 + i)) (clI 10 (by decide))) dX7_observe_46 ?_
      refine lv_iconst (v := (-1)) hx hb dX7_observe_47 (by decide) ?_
      refine lv_icmp_eq (tgt := 68) hx hb dX7_observe_48 (by decide) (fun c_48 => ?_) (fun c_48 => ?_)
      · refine lv_iconst (v := 0) hx hb dX7_observe_68 (by decide) ?_
        exact jn69_1 0 (by unfold mNx; rw [if_pos c_48]) ls (lv_sub hl [0, 1, 2] rfl)
      · refine lv_aload_n hx hb dX7_observe_51 rfl (lv_at hl 0 rfl) ?_
        refine lv_bipush (v := 10) hx hb dX7_observe_52 (by decide) ?_
        refine k_iald (v := ((thr N 0 (40 + i)) 10)) hx hb hG (hw.rc hbi) (show vp_in (nI 10) 22 from vp_in_nI (by decide) (by decide)) (congrArg (thr N 0 (40 + i)) (clI 10 (by decide))) dX7_observe_54 ?_
        refine lv_aload_n hx hb dX7_observe_55 rfl (lv_at hl 1 rfl) ?_
        refine k_get (ci := 7) (C := RX7) (T := TX7) (N := 20) (v := .int ((thr N 0 0) 1)) hx hb hown hG rfl kin_X7 hw.o 1 (by decide) wF_X7_64 rfl dX7_observe_56 ?_
        refine lv_iconst (v := 1) hx hb dX7_observe_59 (by decide) ?_
        refine lv_isub hx hb dX7_observe_60 ?_
        refine lv_icmp_ne (tgt := 68) hx hb dX7_observe_61 (by decide) (fun c_61 => ?_) (fun c_61 => ?_)
        · refine lv_iconst (v := 0) hx hb dX7_observe_68 (by decide) ?_
          exact jn69_1 0 (by unfold mNx; rw [if_neg c_48, if_neg c_61]) ls (lv_sub hl [0, 1, 2] rfl)
        · refine lv_iconst (v := 1) hx hb dX7_observe_64 (by decide) ?_
          refine lv_goto (tgt := 69) hx hb dX7_observe_65 (by decide) ?_
          exact jn69_1 1 (by unfold mNx; rw [if_neg c_48, if_pos c_61]) ls (lv_sub hl [0, 1, 2] rfl)
    · refine lv_aload_n hx hb dX7_observe_37 rfl (lv_at hl 1 rfl) ?_
      refine lv_iconst (v := 2) hx hb dX7_observe_38 (by decide) ?_
      refine kc_ui (kr_V (As := [.int 2]) (rest := []) hx hb hml hown hG (c_X7_refuse l D cy md (thr N 0) co su hA 2) cf_X7_refuse wM_X7_95 hw.o rfl hw ⟨rfl, rfl, by decide, by decide⟩ rfl rfl (Nat.le_of_ble_eq_true rfl) ⟨Nat.le_of_ble_eq_true rfl, Nat.le_of_ble_eq_true rfl⟩ dX7_observe_39) hS (fun _ h => h) (fun r_39 H1 locs hp1 z1 oq1 hS => ?_)
      obtain ⟨e9, hw⟩ := hp1
      subst e9
      rw [thr_thr] at hw
      exact ke_ui hx hb hr hlk hS dX7_observe_42 (Or.inr (Or.inl ⟨by unfold kObsM; rw [if_pos c_10, nI_clamp (by have := hbi; omega), if_pos c_34], hw⟩))
  · have c_10 : ¬ bI (pOut x 0 (nI nr - 1)) = 0 := by have h := mIs_f c_10; rw [show thr N 0 0 10 = nI nr from hN.2.2] at h; exact h
    refine lv_aload_n hx hb dX7_observe_13 rfl (lv_at hl 0 rfl) ?_
    refine lv_iconst (v := 1) hx hb dX7_observe_14 (by decide) ?_
    refine kc_ui (kr_V (As := [.int 1]) (rest := []) hx hb hml hown hG (c_X7_refuse l D cy md (thr N 0) co su hA 1) cf_X7_refuse wM_X7_95 hw.o rfl hw ⟨rfl, rfl, by decide, by decide⟩ rfl rfl (Nat.le_of_ble_eq_true rfl) ⟨Nat.le_of_ble_eq_true rfl, Nat.le_of_ble_eq_true rfl⟩ dX7_observe_15) hS (fun _ h => h) (fun r_15 H1 locs hp1 z1 oq1 hS => ?_)
    obtain ⟨e9, hw⟩ := hp1
    subst e9
    rw [thr_thr] at hw
    exact ke_ui hx hb hr hlk hS dX7_observe_18 (Or.inl ⟨by unfold kObsM; rw [if_neg c_10], hw⟩)
