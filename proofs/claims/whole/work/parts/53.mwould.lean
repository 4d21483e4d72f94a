set_option maxHeartbeats 4000000 in
set_option maxRecDepth 100000 in
theorem c_X7_wouldAlarm (l : Launch) (D : va_G) (cy : Nat → ClassId) (md : Nat → Nat) (N : Nat → Nat → Int32) (co su : Int64) (hA : MI md) (ns nt nr : Nat) (hL : LB ns nt nr) (hN : MN N ns nt nr) (hre : mRef N) (x : Int32) : Met l yX7_wouldAlarm [.code yX7_wouldAlarm cX7_wouldAlarm 2 (some .int)] ({ frames := 7, cells := 0, slots := 0, locals := 172 } : Room) (PC D cy [.ref (md 0), .int x] (fun H => MW D cy md N co su H)) (UQi (MA md) (mOut D cy md N co su (kOne nr x) (fun r H => ∃ i, i < nr ∧ x = nI i ∧ r = mAlNow (thr N 0) ns i co ∧ ∃ B : Bst, MW D cy md (mB (mLQ (thr N 0) ns i (-1)).1 B) B.2.2.2 su H))) 0 0 (MA md) := by
  refine k_body (by decide +kernel) (Nat.le_of_ble_eq_true rfl) ?_
  intro p e s m below meth c ls hx hb hml hown hr hlk hmn hl hG hI
  have hml9 : c.maxLocals = 2 := hml.trans hl.1
  have hl : lv_has ls 2 [(0, .ref (md 0)), (1, .int x)] := hl
  have hS : va_S (MA md) s.heap s.heap [] := va_S.rf
  have hw := hI
  refine lv_aload_n hx hb dX7_wouldAlarm_0 rfl (lv_at hl 0 rfl) ?_
  refine lv_iconst (v := 0) hx hb dX7_wouldAlarm_1 (by decide) ?_
  refine k_put (ci := 7) (C := RX7) (T := TX7) (N := 20) (v := .int 0) hx hb hown hG rfl kin_X7 tyX7 tyX7_ok nmX7 hw.o hS MA.o 0 (by decide) wF_X7_41 rfl rfl rfl (Nat.le_of_ble_eq_true rfl) dX7_wouldAlarm_2 (fun H1 locs hP1 z1 oq1 hS => ?_)
  have hw := hw.setO (r := (upd (N 0) 0 0)) (c' := co) (s' := su) hA hP1 oq1
  have hw : MW D cy md (thr N 0) co su H1 := hw
  refine lv_aload_n hx hb dX7_wouldAlarm_5 rfl (lv_at hl 0 rfl) ?_
  refine lv_iload_n hx hb dX7_wouldAlarm_6 rfl (lv_at hl 1 rfl) ?_
  refine kc_i (kr_V (As := [.int x]) (rest := []) hx hb hml hown hG (c_X7_isReceiver l D cy md (thr N 0) co su x) cf_X7_isReceiver wM_X7_115 hw.o rfl hw ⟨rfl, rfl, by decide, by decide⟩ rfl rfl (Nat.le_of_ble_eq_true rfl) ⟨Nat.le_of_ble_eq_true rfl, Nat.le_of_ble_eq_true rfl⟩ dX7_wouldAlarm_7) ?_
  refine lv_if_eq (tgt := 21) hx hb dX7_wouldAlarm_10 (by decide) (fun c_10 => ?_) (fun c_10 => ?_)
  · have c_10 : ¬ bI (pOut x 0 (nI nr - 1)) = 0 := by have h := mIs_f c_10; rw [show thr N 0 0 10 = nI nr from hN.2.2] at h; exact h
    refine lv_aload_n hx hb dX7_wouldAlarm_21 rfl (lv_at hl 0 rfl) ?_
    refine lv_iconst (v := 1) hx hb dX7_wouldAlarm_22 (by decide) ?_
    refine kc_ui (kr_V (As := [.int 1]) (rest := []) hx hb hml hown hG (c_X7_refuse l D cy md (thr N 0) co su hA 1) cf_X7_refuse wM_X7_95 hw.o rfl hw ⟨rfl, rfl, by decide, by decide⟩ rfl rfl (Nat.le_of_ble_eq_true rfl) ⟨Nat.le_of_ble_eq_true rfl, Nat.le_of_ble_eq_true rfl⟩ dX7_wouldAlarm_23) hS (fun _ h => h) (fun r_23 H1 locs hp1 z1 oq1 hS => ?_)
    obtain ⟨e9, hw⟩ := hp1
    subst e9
    rw [thr_thr] at hw
    exact ke_ui hx hb hr hlk hS dX7_wouldAlarm_26 (Or.inl ⟨by unfold kOne; rw [if_neg c_10], hw⟩)
  · have c_10 : bI (pOut x 0 (nI nr - 1)) = 0 := by have h := mIs_t c_10; rw [show thr N 0 0 10 = nI nr from hN.2.2] at h; exact h
    obtain ⟨i, hi, ei⟩ := pOut_f (Nat.le_trans hL.2.2 (by decide)) c_10
    subst ei
    have hbi := Nat.lt_of_lt_of_le hi hL.2.2
    refine lv_aload_n hx hb dX7_wouldAlarm_13 rfl (lv_at hl 0 rfl) ?_
    refine lv_iload_n hx hb dX7_wouldAlarm_14 rfl (lv_at hl 1 rfl) ?_
    refine kc_ui (kr_V (As := [.int (nI i)]) (rest := []) hx hb hml hown hG (c_X7_alarmNow l D cy md (thr N 0) co su hA ns hL.1 hN.1 (mRef_of (fun k hk => mset_n (by omega)) hre) i hbi) cf_X7_alarmNow wM_X7_223 hw.o rfl hw ⟨rfl, rfl, by decide, by decide⟩ rfl rfl (Nat.le_of_ble_eq_true rfl) ⟨Nat.le_of_ble_eq_true rfl, Nat.le_of_ble_eq_true rfl⟩ dX7_wouldAlarm_15) hS (fun _ h => h) (fun r_15 H1 locs hp1 z1 oq1 hS => ?_)
    obtain ⟨e9, B, hw⟩ := hp1
    subst e9
    refine lv_goto (tgt := 26) hx hb dX7_wouldAlarm_18 (by decide) ?_
    exact ke_ui hx hb hr hlk hS dX7_wouldAlarm_26 (Or.inr (Or.inr ⟨by unfold kOne; rw [if_pos c_10], i, hi, rfl, rfl, B, hw⟩))
set_option maxHeartbeats 4000000 in
set_option maxRecDepth 100000 in
theorem c_X7_without (l : Launch) (D : va_G) (cy : Nat → ClassId) (md : Nat → Nat) (N : Nat → Nat → Int32) (co su : Int64) (hA : MI md) (ns nt nr : Nat) (hL : LB ns nt nr) (hN : MN N ns nt nr) (hre : mRef N) (x y : Int32) : Met l yX7_without [.code yX7_without cX7_without 3 (some .int)] ({ frames := 6, cells := 0, slots := 0, locals := 143 } : Room) (PC D cy [.ref (md 0), .int x, .int y] (fun H => MW D cy md N co su H)) (UQi (MA md) (mOut D cy md N co su (kTwo nr ns x y) (fun r H => ∃ i j, i < nr ∧ j < ns ∧ x = nI i ∧ y = nI j ∧ r = mWoM (thr N 0) ns i (nI j) co ∧ ∃ B : Bst, MW D cy md (mB (mLQ (thr N 0) ns i (nI j)).1 B) B.2.2.2 su H))) 0 0 (MA md) := by
  refine k_body (by decide +kernel) (Nat.le_of_ble_eq_true rfl) ?_
  intro p e s m below meth c ls hx hb hml hown hr hlk hmn hl hG hI
  have hml9 : c.maxLocals = 3 := hml.trans hl.1
  have hl : lv_has ls 3 [(0, .ref (md 0)), (1, .int x), (2, .int y)] := hl
  have hS : va_S (MA md) s.heap s.heap [] := va_S.rf
  have hw := hI
  refine lv_aload_n hx hb dX7_without_0 rfl (lv_at hl 0 rfl) ?_
  refine lv_iconst (v := 0) hx hb dX7_without_1 (by decide) ?_
  refine k_put (ci := 7) (C := RX7) (T := TX7) (N := 20) (v := .int 0) hx hb hown hG rfl kin_X7 tyX7 tyX7_ok nmX7 hw.o hS MA.o 0 (by decide) wF_X7_41 rfl rfl rfl (Nat.le_of_ble_eq_true rfl) dX7_without_2 (fun H1 locs hP1 z1 oq1 hS => ?_)
  have hw := hw.setO (r := (upd (N 0) 0 0)) (c' := co) (s' := su) hA hP1 oq1
  have hw : MW D cy md (thr N 0) co su H1 := hw
  refine lv_aload_n hx hb dX7_without_5 rfl (lv_at hl 0 rfl) ?_
  refine lv_iload_n hx hb dX7_without_6 rfl (lv_at hl 1 rfl) ?_
  refine kc_i (kr_V (As := [.int x]) (rest := []) hx hb hml hown hG (c_X7_isReceiver l D cy md (thr N 0) co su x) cf_X7_isReceiver wM_X7_115 hw.o rfl hw ⟨rfl, rfl, by decide, by decide⟩ rfl rfl (Nat.le_of_ble_eq_true rfl) ⟨Nat.le_of_ble_eq_true rfl, Nat.le_of_ble_eq_true rfl⟩ dX7_without_7) ?_
  refine lv_if_eq (tgt := 21) hx hb dX7_without_10 (by decide) (fun c_10 => ?_) (fun c_10 => ?_)
  · have c_10 : ¬ bI (pOut x 0 (nI nr - 1)) = 0 := by have h := mIs_f c_10; rw [show thr N 0 0 10 = nI nr from hN.2.2] at h; exact h
    refine lv_aload_n hx hb dX7_without_21 rfl (lv_at hl 0 rfl) ?_
    refine lv_iconst (v := 1) hx hb dX7_without_22 (by decide) ?_
    refine kc_ui (kr_V (As := [.int 1]) (rest := []) hx hb hml hown hG (c_X7_refuse l D cy md (thr N 0) co su hA 1) cf_X7_refuse wM_X7_95 hw.o rfl hw ⟨rfl, rfl, by decide, by decide⟩ rfl rfl (Nat.le_of_ble_eq_true rfl) ⟨Nat.le_of_ble_eq_true rfl, Nat.le_of_ble_eq_true rfl⟩ dX7_without_23) hS (fun _ h => h) (fun r_23 H1 locs hp1 z1 oq1 hS => ?_)
    obtain ⟨e9, hw⟩ := hp1
    subst e9
    rw [thr_thr] at hw
    exact ke_ui hx hb hr hlk hS dX7_without_26 (Or.inl ⟨by unfold kTwo; rw [if_neg c_10], hw⟩)
  · have c_10 : bI (pOut x 0 (nI nr - 1)) = 0 := by have h := mIs_t c_10; rw [show thr N 0 0 10 = nI nr from hN.2.2] at h; exact h
    obtain ⟨i, hi, ei⟩ := pOut_f (Nat.le_trans hL.2.2 (by decide)) c_10
    subst ei
    have hbi := Nat.lt_of_lt_of_le hi hL.2.2
    refine lv_aload_n hx hb dX7_without_13 rfl (lv_at hl 0 rfl) ?_
    refine lv_iload_n hx hb dX7_without_14 rfl (lv_at hl 2 rfl) ?_
    refine kc_i (kr_V (As := [.int y]) (rest := []) hx hb hml hown hG (c_X7_isStar l D cy md (thr N 0) co su y) cf_X7_isStar wM_X7_98 hw.o rfl hw ⟨rfl, rfl, by decide, by decide⟩ rfl rfl (Nat.le_of_ble_eq_true rfl) ⟨Nat.le_of_ble_eq_true rfl, Nat.le_of_ble_eq_true rfl⟩ dX7_without_15) ?_
    refine lv_if_ne (tgt := 27) hx hb dX7_without_18 (by decide) (fun c_18 => ?_) (fun c_18 => ?_)
    · have c_18 : bI (pOut y 0 (nI ns - 1)) = 0 := by have h := mIs_t c_18; rw [show thr N 0 0 8 = nI ns from hN.1] at h; exact h
      obtain ⟨j, hj, ej⟩ := pOut_f hL.1 c_18
      subst ej
      have hbj := Nat.lt_of_lt_of_le hj hL.1
      have hns8 := hL.1
      have ens : thr N 0 0 8 = nI ns := hN.1
      have hre : mRef (thr N 0) := mRef_of (fun k hk => mset_n (by omega)) hre
      refine lv_aload_n hx hb dX7_without_27 rfl (lv_at hl 0 rfl) ?_
      refine lv_iload_n hx hb dX7_without_28 rfl (lv_at hl 1 rfl) ?_
      refine lv_iconst (v := 0) hx hb dX7_without_29 (by decide) ?_
      refine lv_iload_n hx hb dX7_without_30 rfl (lv_at hl 2 rfl) ?_
      refine kc_ui (kr_V (As := [.int (nI i), .int 0, .int (nI j)]) (rest := []) hx hb hml hown hG (c_X7_lay l D cy md (thr N 0) co su hA ns hns8 ens hre i hbi 0 (nI j)) cf_X7_lay wM_X7_188 hw.o rfl hw ⟨rfl, rfl, by decide, by decide⟩ rfl rfl (Nat.le_of_ble_eq_true rfl) ⟨Nat.le_of_ble_eq_true rfl, Nat.le_of_ble_eq_true rfl⟩ dX7_without_31) hS (fun _ h => h) (fun r_31 H1 locs hp1 z1 oq1 hS => ?_)
      obtain ⟨e9, hw⟩ := hp1
      subst e9
      obtain ⟨hok, hcn⟩ := mLay_ok (thr N 0) ns i 0 (nI j) ns
      obtain ⟨P, eP⟩ : ∃ P, P = (mLay (thr N 0) ns i 0 (nI j) ns).1 := ⟨_, rfl⟩
      obtain ⟨q, eq⟩ : ∃ q, q = (mLay (thr N 0) ns i 0 (nI j) ns).2 := ⟨_, rfl⟩
      rw [← eP] at hw hok hcn
      rw [← eq] at hcn ⊢
      have hq8 : q ≤ ns := by rw [hcn]; exact wC_le P ns
      have ensP : P 0 8 = nI ns := by rw [eP, mLay_lo _ _ _ _ _ (Or.inl (by decide))]; exact ens
      refine lv_iconst (v := 3) hx hb dX7_without_34 (by decide) ?_
      refine lv_icmp_ge (tgt := 40) hx hb dX7_without_35 (by decide) (fun c_35 => ?_) (fun c_35 => ?_)
      · have hc3 : 3 ≤ q := (nI_leI (by decide) (by omega)).mp (show nI 3 ≤ nI q from c_35)
        have hc1 : 1 ≤ wC P ns := by omega
        refine lv_aload_n hx hb dX7_without_40 rfl (lv_at hl 0 rfl) ?_
        refine kc_uv (kr_V (As := []) (rest := []) hx hb hml hown hG (c_X7_solve l D cy md P co su hA ns hns8 ensP (mAw_ne hok hns8 hc1) (mB0 P co)) cf_X7_solve wM_X7_179 hw.o rfl (show MW D cy md (mB P (mB0 P co)) co su _ from (mB_self P co).symm ▸ hw) ⟨rfl, rfl, by decide, by decide⟩ rfl rfl (Nat.le_of_ble_eq_true rfl) ⟨Nat.le_of_ble_eq_true rfl, Nat.le_of_ble_eq_true rfl⟩ dX7_without_41) hS (fun _ h => h) (fun H1 locs hp1 z1 oq1 hS => ?_)
        obtain ⟨B1, eB1⟩ : ∃ B1, B1 = mFind P ns (mB0 P co) := ⟨_, rfl⟩
        rw [← eB1] at hp1
        have hw : MW D cy md (mB P B1) B1.2.2.2 su H1 := hp1
        refine lv_bipush (v := 100) hx hb dX7_without_44 (by decide) ?_
        refine lv_aload_n hx hb dX7_without_46 rfl (lv_at hl 0 rfl) ?_
        refine k_get (ci := 7) (C := RX7) (T := TX7) (N := 20) (v := .int B1.1) hx hb hown hG rfl kin_X7 hw.o 15 (by decide) wF_X7_155 rfl dX7_without_47 ?_
        refine lv_bipush (v := 12) hx hb dX7_without_50 (by decide) ?_
        refine lv_iadd hx hb dX7_without_52 ?_
        refine lv_imul hx hb dX7_without_53 ?_
        refine lv_aload_n hx hb dX7_without_54 rfl (lv_at hl 0 rfl) ?_
        refine k_get (ci := 7) (C := RX7) (T := TX7) (N := 20) (v := .int B1.2.1) hx hb hown hG rfl kin_X7 hw.o 16 (by decide) wF_X7_158 rfl dX7_without_55 ?_
        refine lv_iadd hx hb dX7_without_58 ?_
        exact ke_ui hx hb hr hlk hS dX7_without_59 (Or.inr (Or.inr ⟨by unfold kTwo; rw [if_pos c_10, if_pos c_18], i, j, hi, hj, rfl, rfl, (by unfold mWoM mLQ; rw [← eq, if_pos c_35, ← eP, ← eB1]), B1, by unfold mLQ; rw [← eP]; exact hw⟩))
      · refine lv_iconst (v := (-1)) hx hb dX7_without_38 (by decide) ?_
        exact ke_ui hx hb hr hlk hS dX7_without_39 (Or.inr (Or.inr ⟨by unfold kTwo; rw [if_pos c_10, if_pos c_18], i, j, hi, hj, rfl, rfl, (by unfold mWoM mLQ; rw [← eq, if_neg c_35]), mB0 P co, by unfold mLQ; rw [← eP]; exact (mB_self P co).symm ▸ hw⟩))
    · have c_18 : ¬ bI (pOut y 0 (nI ns - 1)) = 0 := by have h := mIs_f c_18; rw [show thr N 0 0 8 = nI ns from hN.1] at h; exact h
      refine lv_aload_n hx hb dX7_without_21 rfl (lv_at hl 0 rfl) ?_
      refine lv_iconst (v := 1) hx hb dX7_without_22 (by decide) ?_
      refine kc_ui (kr_V (As := [.int 1]) (rest := []) hx hb hml hown hG (c_X7_refuse l D cy md (thr N 0) co su hA 1) cf_X7_refuse wM_X7_95 hw.o rfl hw ⟨rfl, rfl, by decide, by decide⟩ rfl rfl (Nat.le_of_ble_eq_true rfl) ⟨Nat.le_of_ble_eq_true rfl, Nat.le_of_ble_eq_true rfl⟩ dX7_without_23) hS (fun _ h => h) (fun r_23 H1 locs hp1 z1 oq1 hS => ?_)
      obtain ⟨e9, hw⟩ := hp1
      subst e9
      rw [thr_thr] at hw
      exact ke_ui hx hb hr hlk hS dX7_without_26 (Or.inl ⟨by unfold kTwo; rw [if_pos c_10, if_neg c_18], hw⟩)
