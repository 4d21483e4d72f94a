set_option maxHeartbeats 4000000 in
set_option maxRecDepth 100000 in
theorem c_X7_alarmNow (l : Launch) (D : va_G) (cy : Nat → ClassId) (md : Nat → Nat) (N : Nat → Nat → Int32) (co su : Int64) (hA : MI md) (ns : Nat) (hns8 : ns ≤ 8) (ens : N 0 8 = nI ns) (hre : mRef N) (i : Nat) (hi : i < 3) : Met l yX7_alarmNow [.code yX7_alarmNow cX7_alarmNow 3 (some .int)] ({ frames := 6, cells := 0, slots := 0, locals := 150 } : Room) (PC D cy [.ref (md 0), .int (nI i)] (fun H => MW D cy md N co su H)) (UQi (MA md) (fun r H => r = mAlNow N ns i co ∧ ∃ B : Bst, MW D cy md (mB (mLQ N ns i (-1)).1 B) B.2.2.2 su H)) 0 0 (MA md) := by
  refine k_body (by decide +kernel) (Nat.le_of_ble_eq_true rfl) ?_
  intro p e s m below meth c ls hx hb hml hown hr hlk hmn hl hG hI
  have hml9 : c.maxLocals = 3 := hml.trans hl.1
  have hl : lv_has ls 3 [(0, .ref (md 0)), (1, .int (nI i))] := hl
  have hS : va_S (MA md) s.heap s.heap [] := va_S.rf
  have hw := hI
  refine lv_aload_n hx hb dX7_alarmNow_0 rfl (lv_at hl 0 rfl) ?_
  refine lv_iload_n hx hb dX7_alarmNow_1 rfl (lv_at hl 1 rfl) ?_
  refine lv_iconst (v := 0) hx hb dX7_alarmNow_2 (by decide) ?_
  refine lv_iconst (v := (-1)) hx hb dX7_alarmNow_3 (by decide) ?_
  refine kc_ui (kr_V (As := [.int (nI i), .int 0, .int (-1)]) (rest := []) hx hb hml hown hG (c_X7_lay l D cy md N co su hA ns hns8 ens hre i hi 0 (-1)) cf_X7_lay wM_X7_188 hw.o rfl hw ⟨rfl, rfl, by decide, by decide⟩ rfl rfl (Nat.le_of_ble_eq_true rfl) ⟨Nat.le_of_ble_eq_true rfl, Nat.le_of_ble_eq_true rfl⟩ dX7_alarmNow_4) hS (fun _ h => h) (fun r_4 H1 locs hp1 z1 oq1 hS => ?_)
  obtain ⟨e9, hw⟩ := hp1
  subst e9
  obtain ⟨hok, hcn⟩ := mLay_ok N ns i 0 (-1) ns
  obtain ⟨P, eP⟩ : ∃ P, P = (mLay N ns i 0 (-1) ns).1 := ⟨_, rfl⟩
  obtain ⟨q, eq⟩ : ∃ q, q = (mLay N ns i 0 (-1) ns).2 := ⟨_, rfl⟩
  rw [← eP] at hw hok hcn
  rw [← eq] at hcn ⊢
  have hq8 : q ≤ ns := by rw [hcn]; exact wC_le P ns
  have ensP : P 0 8 = nI ns := by rw [eP, mLay_lo _ _ _ _ _ (Or.inl (by decide))]; exact ens
  refine lv_istore_n (lv' := [(2, .int (nI q)), (0, .ref (md 0)), (1, .int (nI i))]) hx hb dX7_alarmNow_7 rfl hl (by decide) rfl (fun ls hl => ?_)
  have hml : c.maxLocals = ls.size := hml9.trans hl.1.symm
  refine lv_iload_n hx hb dX7_alarmNow_8 rfl (lv_at hl 0 rfl) ?_
  refine lv_iconst (v := 4) hx hb dX7_alarmNow_9 (by decide) ?_
  refine lv_icmp_ge (tgt := 15) hx hb dX7_alarmNow_10 (by decide) (fun c_10 => ?_) (fun c_10 => ?_)
  · have hc4 : 4 ≤ q := (nI_leI (by decide) (by omega)).mp (show nI 4 ≤ nI q from c_10)
    have hc1 : 1 ≤ wC P ns := by omega
    refine lv_aload_n hx hb dX7_alarmNow_15 rfl (lv_at hl 1 rfl) ?_
    refine kc_uv (kr_V (As := []) (rest := []) hx hb hml hown hG (c_X7_solve l D cy md P co su hA ns hns8 ensP (mAw_ne hok hns8 hc1) (mB0 P co)) cf_X7_solve wM_X7_179 hw.o rfl (show MW D cy md (mB P (mB0 P co)) co su _ from (mB_self P co).symm ▸ hw) ⟨rfl, rfl, by decide, by decide⟩ rfl rfl (Nat.le_of_ble_eq_true rfl) ⟨Nat.le_of_ble_eq_true rfl, Nat.le_of_ble_eq_true rfl⟩ dX7_alarmNow_16) hS (fun _ h => h) (fun H1 locs hp1 z1 oq1 hS => ?_)
    obtain ⟨B1, eB1⟩ : ∃ B1, B1 = mFind P ns (mB0 P co) := ⟨_, rfl⟩
    rw [← eB1] at hp1
    have hw : MW D cy md (mB P B1) B1.2.2.2 su H1 := hp1
    refine lv_aload_n hx hb dX7_alarmNow_19 rfl (lv_at hl 1 rfl) ?_
    refine lv_iload_n hx hb dX7_alarmNow_20 rfl (lv_at hl 2 rfl) ?_
    refine lv_iload_n hx hb dX7_alarmNow_21 rfl (lv_at hl 0 rfl) ?_
    refine lv_aload_n hx hb dX7_alarmNow_22 rfl (lv_at hl 1 rfl) ?_
    refine lv_iload_n hx hb dX7_alarmNow_23 rfl (lv_at hl 0 rfl) ?_
    refine kc_ui (kr_V (As := [.int (nI q)]) (rest := [.int (nI q), .int (nI i), .ref (md 0)]) hx hb hml hown hG (c_X7_level l D cy md P co su hA ns hns8 ensP (fun k hk h => mAw_ne (hok.less k) hns8 (by have := wC_less P k ns; rw [if_pos hk] at this; omega)) B1 (nI q)) cf_X7_level wM_X7_199 hw.o rfl hw ⟨rfl, rfl, by decide, by decide⟩ rfl rfl (Nat.le_of_ble_eq_true rfl) ⟨Nat.le_of_ble_eq_true rfl, Nat.le_of_ble_eq_true rfl⟩ dX7_alarmNow_24) hS (fun _ h => h) (fun r_24 H1 locs hp1 z1 oq1 hS => ?_)
    obtain ⟨e8, hw⟩ := hp1
    subst e8
    refine kc_i (kr_V (As := [.int (nI i), .int (nI q), .int (mLevel P ns B1 (nI q))]) (rest := []) hx hb hml hown hG (c_X7_alarm l D cy md (mB P B1) B1.2.2.2 su i hi (nI q) (mLevel P ns B1 (nI q))) cf_X7_alarm wM_X7_202 hw.o rfl hw ⟨rfl, rfl, by decide, by decide⟩ rfl rfl (Nat.le_of_ble_eq_true rfl) ⟨Nat.le_of_ble_eq_true rfl, Nat.le_of_ble_eq_true rfl⟩ dX7_alarmNow_27) ?_
    exact ke_ui hx hb hr hlk hS dX7_alarmNow_30 ⟨(by unfold mAlNow mLQ; rw [← eq, if_pos c_10, ← eP, ← eB1, show mB P B1 (40 + i) = P (40 + i) from mset_n (by omega)]), B1, by unfold mLQ; rw [← eP]; exact hw⟩
  · refine lv_iconst (v := 1) hx hb dX7_alarmNow_13 (by decide) ?_
    exact ke_ui hx hb hr hlk hS dX7_alarmNow_14 ⟨(by unfold mAlNow mLQ; rw [← eq, if_neg c_10]), mB0 P co, by unfold mLQ; rw [← eP]; exact (mB_self P co).symm ▸ hw⟩
