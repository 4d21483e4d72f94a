set_option maxHeartbeats 4000000 in
set_option maxRecDepth 100000 in
theorem c_X7_ofReceiverNow (l : Launch) (D : va_G) (cy : Nat → ClassId) (md : Nat → Nat) (N : Nat → Nat → Int32) (co su : Int64) (hA : MI md) (ns nt nr : Nat) (hL : LB ns nt nr) (hN : MN N ns nt nr) (i : Nat) (hi : i < 3) (w : Int32) (hw14 : vp_in w 14) (w9 : Nat) : Met l yX7_ofReceiverNow [.code yX7_ofReceiverNow cX7_ofReceiverNow 6 (some .int)] ({ frames := 5, cells := 1, slots := 14, locals := 115 } : Room) (PC D cy [.ref (md 0), .int (nI i), .int w] (fun H => MW D cy md N co su H ∧ H.size = w9)) (UQi (fun q => MA md q ∨ w9 ≤ q) (fun r H => r = mTold N ns i w.toNatClampNeg ∧ MW D cy md N co su H)) 1 14 (fun q => MA md q ∨ w9 ≤ q) := by
  refine k_body (by decide +kernel) (Nat.le_of_ble_eq_true rfl) ?_
  intro p e s m below meth c ls hx hb hml hown hr hlk hmn hl hG hI
  have hml9 : c.maxLocals = 6 := hml.trans hl.1
  have hl : lv_has ls 6 [(0, .ref (md 0)), (1, .int (nI i)), (2, .int w)] := hl
  obtain ⟨hw, hsz⟩ := hI
  have hS : va_S (fun q => MA md q ∨ w9 ≤ q) s.heap s.heap [] := va_S.rf
  have hlt9 : ∀ q, MA md q → q < w9 := fun q h => by obtain ⟨k, hk, rfl⟩ := h; exact hsz ▸ hw.lt hk
  have hL1 := hL.1
  have hL2 := hL.2.1
  have hL3 := hL.2.2
  refine lv_aload_n hx hb dX7_ofReceiverNow_0 rfl (lv_at hl 0 rfl) ?_
  refine k_get (ci := 7) (C := RX7) (T := TX7) (N := 20) (v := .ref (md 4)) hx hb hown hG rfl kin_X7 hw.o 6 (by decide) wF_X7_20 rfl dX7_ofReceiverNow_1 ?_
  refine lv_iload_n hx hb dX7_ofReceiverNow_4 rfl (lv_at hl 1 rfl) ?_
  refine k_ald2 (v := (md (40 + i))) hx hb hG 5 rfl hw.a4 (vp_in_nI (n := i) hi (by decide)) (mo_rc hi) dX7_ofReceiverNow_5 ?_
  refine lv_astore_n (lv' := [(3, .ref (md (40 + i))), (0, .ref (md 0)), (1, .int (nI i)), (2, .int w)]) hx hb dX7_ofReceiverNow_6 rfl hl (by decide) rfl (fun ls hl => ?_)
  have hml : c.maxLocals = ls.size := hml9.trans hl.1.symm
  refine lv_aload_n hx hb dX7_ofReceiverNow_7 rfl (lv_at hl 0 rfl) ?_
  refine lv_bipush (v := 20) hx hb dX7_ofReceiverNow_8 (by decide) ?_
  refine k_iald (v := ((N (40 + i)) 20)) hx hb hG (hw.rc hi) (show vp_in (nI 20) 22 from vp_in_nI (by decide) (by decide)) (congrArg (N (40 + i)) (clI 20 (by decide))) dX7_ofReceiverNow_10 ?_
  refine lv_if_ne (tgt := 18) hx hb dX7_ofReceiverNow_11 (by decide) (fun c_11 => ?_) (fun c_11 => ?_)
  · refine lv_aload_n hx hb dX7_ofReceiverNow_18 rfl (lv_at hl 0 rfl) ?_
    refine lv_iconst (v := 0) hx hb dX7_ofReceiverNow_19 (by decide) ?_
    refine k_iald (v := ((N (40 + i)) 0)) hx hb hG (hw.rc hi) (show vp_in (nI 0) 22 from vp_in_nI (by decide) (by decide)) (congrArg (N (40 + i)) (clI 0 (by decide))) dX7_ofReceiverNow_20 ?_
    refine lv_aload_n hx hb dX7_ofReceiverNow_21 rfl (lv_at hl 0 rfl) ?_
    refine lv_iconst (v := 1) hx hb dX7_ofReceiverNow_22 (by decide) ?_
    refine k_iald (v := ((N (40 + i)) 1)) hx hb hG (hw.rc hi) (show vp_in (nI 1) 22 from vp_in_nI (by decide) (by decide)) (congrArg (N (40 + i)) (clI 1 (by decide))) dX7_ofReceiverNow_23 ?_
    refine lv_aload_n hx hb dX7_ofReceiverNow_24 rfl (lv_at hl 0 rfl) ?_
    refine lv_bipush (v := 12) hx hb dX7_ofReceiverNow_25 (by decide) ?_
    refine k_iald (v := ((N (40 + i)) 12)) hx hb hG (hw.rc hi) (show vp_in (nI 12) 22 from vp_in_nI (by decide) (by decide)) (congrArg (N (40 + i)) (clI 12 (by decide))) dX7_ofReceiverNow_27 ?_
    refine lv_aload_n hx hb dX7_ofReceiverNow_28 rfl (lv_at hl 0 rfl) ?_
    refine lv_bipush (v := 13) hx hb dX7_ofReceiverNow_29 (by decide) ?_
    refine k_iald (v := ((N (40 + i)) 13)) hx hb hG (hw.rc hi) (show vp_in (nI 13) 22 from vp_in_nI (by decide) (by decide)) (congrArg (N (40 + i)) (clI 13 (by decide))) dX7_ofReceiverNow_31 ?_
    refine kc_i (kr_S (As := [.int ((N (40 + i)) 0), .int ((N (40 + i)) 1), .int ((N (40 + i)) 12), .int ((N (40 + i)) 13)]) (rest := []) hx hb hml hown hG (c_X7_range l D cy ((N (40 + i)) 0) ((N (40 + i)) 1) ((N (40 + i)) 12) ((N (40 + i)) 13)) cf_X7_range wM_X7_118 trivial ⟨rfl, rfl, by decide, by decide⟩ rfl rfl (Nat.le_of_ble_eq_true rfl) ⟨Nat.le_of_ble_eq_true rfl, Nat.le_of_ble_eq_true rfl⟩ dX7_ofReceiverNow_32) ?_
    refine lv_istore (lv' := [(4, .int (pRange ((N (40 + i)) 0) ((N (40 + i)) 1) ((N (40 + i)) 12) ((N (40 + i)) 13))), (3, .ref (md (40 + i))), (0, .ref (md 0)), (1, .int (nI i)), (2, .int w)]) hx hb dX7_ofReceiverNow_35 hl (by decide) rfl (fun ls hl => ?_)
    have hml : c.maxLocals = ls.size := hml9.trans hl.1.symm
    refine lv_bipush (v := 14) hx hb dX7_ofReceiverNow_37 (by decide) ?_
    refine k_newi (q0 := w9) hx hb hG hS hsz (by decide) (N' := 14) (by decide) (by decide) (Nat.le_of_ble_eq_true rfl) (Nat.le_of_ble_eq_true rfl) dX7_ofReceiverNow_39 (fun H1 hP1 z1 o1 hS => ?_)
    have hw := hw.keep (A := fun _ => False) (fun q h _ => o1 q (by rw [hsz] at h; exact h)) (fun _ _ h => h)
    have hna := hP1
    refine lv_dup hx hb dX7_ofReceiverNow_41 rfl ?_
    refine lv_iconst (v := 0) hx hb dX7_ofReceiverNow_42 (by decide) ?_
    refine lv_aload_n hx hb dX7_ofReceiverNow_43 rfl (lv_at hl 1 rfl) ?_
    refine lv_iconst (v := 0) hx hb dX7_ofReceiverNow_44 (by decide) ?_
    refine k_iald (v := ((N (40 + i)) 0)) hx hb hG (hw.rc hi) (show vp_in (nI 0) 22 from vp_in_nI (by decide) (by decide)) (congrArg (N (40 + i)) (clI 0 (by decide))) dX7_ofReceiverNow_45 ?_
    refine k_iast hx hb hG hna hS (Or.inr (Nat.le_refl _)) (show vp_in (nI 0) 14 from vp_in_nI (by decide) (by decide)) dX7_ofReceiverNow_46 (fun H1 locs hP1 z1 oq1 hS => ?_)
    rw [show Int32.toNatClampNeg 0 = 0 from clI 0 (by decide)] at hP1
    have hw := hw.keep (A := fun q => q = w9) (fun q _ h => oq1 q h) (fun q h e => Nat.lt_irrefl w9 ((show q = w9 from e) ▸ hlt9 q h))
    have hna := hP1
    refine lv_dup hx hb dX7_ofReceiverNow_47 rfl ?_
    refine lv_iconst (v := 1) hx hb dX7_ofReceiverNow_48 (by decide) ?_
    refine lv_aload_n hx hb dX7_ofReceiverNow_49 rfl (lv_at hl 1 rfl) ?_
    refine lv_iconst (v := 1) hx hb dX7_ofReceiverNow_50 (by decide) ?_
    refine k_iald (v := ((N (40 + i)) 1)) hx hb hG (hw.rc hi) (show vp_in (nI 1) 22 from vp_in_nI (by decide) (by decide)) (congrArg (N (40 + i)) (clI 1 (by decide))) dX7_ofReceiverNow_51 ?_
    refine k_iast hx hb hG hna hS (Or.inr (Nat.le_refl _)) (show vp_in (nI 1) 14 from vp_in_nI (by decide) (by decide)) dX7_ofReceiverNow_52 (fun H1 locs hP1 z1 oq1 hS => ?_)
    rw [show Int32.toNatClampNeg 1 = 1 from clI 1 (by decide)] at hP1
    have hw := hw.keep (A := fun q => q = w9) (fun q _ h => oq1 q h) (fun q h e => Nat.lt_irrefl w9 ((show q = w9 from e) ▸ hlt9 q h))
    have hna := hP1
    refine lv_dup hx hb dX7_ofReceiverNow_53 rfl ?_
    refine lv_iconst (v := 2) hx hb dX7_ofReceiverNow_54 (by decide) ?_
    refine lv_aload_n hx hb dX7_ofReceiverNow_55 rfl (lv_at hl 2 rfl) ?_
    refine lv_iload_n hx hb dX7_ofReceiverNow_56 rfl (lv_at hl 3 rfl) ?_
    refine lv_iconst (v := 0) hx hb dX7_ofReceiverNow_57 (by decide) ?_
    refine kc_i (kr_V (As := [.int (nI i), .int 0]) (rest := [.int 2, .ref w9, .ref w9]) hx hb hml hown hG (c_X7_setSeen l D cy md N co su ns hL.1 hN.1 i hi 0) cf_X7_setSeen wM_X7_122 hw.o rfl hw ⟨rfl, rfl, by decide, by decide⟩ rfl rfl (Nat.le_of_ble_eq_true rfl) ⟨Nat.le_of_ble_eq_true rfl, Nat.le_of_ble_eq_true rfl⟩ dX7_ofReceiverNow_58) ?_
    refine kc_i (kr_S (As := [.int (mSet (N (40 + i)) N 0 ns)]) (rest := [.int 2, .ref w9, .ref w9]) hx hb hml hown hG (c_J6_bitCount_0f7a4 l D cy (mSet (N (40 + i)) N 0 ns)) cf_J6_bitCount_0f7a4 wM_X7_125 trivial ⟨rfl, rfl, by decide, by decide⟩ rfl rfl (Nat.le_of_ble_eq_true rfl) ⟨Nat.le_of_ble_eq_true rfl, Nat.le_of_ble_eq_true rfl⟩ dX7_ofReceiverNow_61) ?_
    refine k_iast hx hb hG hna hS (Or.inr (Nat.le_refl _)) (show vp_in (nI 2) 14 from vp_in_nI (by decide) (by decide)) dX7_ofReceiverNow_64 (fun H1 locs hP1 z1 oq1 hS => ?_)
    rw [show Int32.toNatClampNeg 2 = 2 from clI 2 (by decide)] at hP1
    have hw := hw.keep (A := fun q => q = w9) (fun q _ h => oq1 q h) (fun q h e => Nat.lt_irrefl w9 ((show q = w9 from e) ▸ hlt9 q h))
    have hna := hP1
    refine lv_dup hx hb dX7_ofReceiverNow_65 rfl ?_
    refine lv_iconst (v := 3) hx hb dX7_ofReceiverNow_66 (by decide) ?_
    refine lv_aload_n hx hb dX7_ofReceiverNow_67 rfl (lv_at hl 1 rfl) ?_
    refine lv_bipush (v := 10) hx hb dX7_ofReceiverNow_68 (by decide) ?_
    refine k_iald (v := ((N (40 + i)) 10)) hx hb hG (hw.rc hi) (show vp_in (nI 10) 22 from vp_in_nI (by decide) (by decide)) (congrArg (N (40 + i)) (clI 10 (by decide))) dX7_ofReceiverNow_70 ?_
    refine k_iast hx hb hG hna hS (Or.inr (Nat.le_refl _)) (show vp_in (nI 3) 14 from vp_in_nI (by decide) (by decide)) dX7_ofReceiverNow_71 (fun H1 locs hP1 z1 oq1 hS => ?_)
    rw [show Int32.toNatClampNeg 3 = 3 from clI 3 (by decide)] at hP1
    have hw := hw.keep (A := fun q => q = w9) (fun q _ h => oq1 q h) (fun q h e => Nat.lt_irrefl w9 ((show q = w9 from e) ▸ hlt9 q h))
    have hna := hP1
    refine lv_dup hx hb dX7_ofReceiverNow_72 rfl ?_
    refine lv_iconst (v := 4) hx hb dX7_ofReceiverNow_73 (by decide) ?_
    refine lv_aload_n hx hb dX7_ofReceiverNow_74 rfl (lv_at hl 1 rfl) ?_
    refine lv_bipush (v := 11) hx hb dX7_ofReceiverNow_75 (by decide) ?_
    refine k_iald (v := ((N (40 + i)) 11)) hx hb hG (hw.rc hi) (show vp_in (nI 11) 22 from vp_in_nI (by decide) (by decide)) (congrArg (N (40 + i)) (clI 11 (by decide))) dX7_ofReceiverNow_77 ?_
    refine k_iast hx hb hG hna hS (Or.inr (Nat.le_refl _)) (show vp_in (nI 4) 14 from vp_in_nI (by decide) (by decide)) dX7_ofReceiverNow_78 (fun H1 locs hP1 z1 oq1 hS => ?_)
    rw [show Int32.toNatClampNeg 4 = 4 from clI 4 (by decide)] at hP1
    have hw := hw.keep (A := fun q => q = w9) (fun q _ h => oq1 q h) (fun q h e => Nat.lt_irrefl w9 ((show q = w9 from e) ▸ hlt9 q h))
    have hna := hP1
    refine lv_dup hx hb dX7_ofReceiverNow_79 rfl ?_
    refine lv_iconst (v := 5) hx hb dX7_ofReceiverNow_80 (by decide) ?_
    refine lv_aload_n hx hb dX7_ofReceiverNow_81 rfl (lv_at hl 1 rfl) ?_
    refine lv_bipush (v := 12) hx hb dX7_ofReceiverNow_82 (by decide) ?_
    refine k_iald (v := ((N (40 + i)) 12)) hx hb hG (hw.rc hi) (show vp_in (nI 12) 22 from vp_in_nI (by decide) (by decide)) (congrArg (N (40 + i)) (clI 12 (by decide))) dX7_ofReceiverNow_84 ?_
    refine k_iast hx hb hG hna hS (Or.inr (Nat.le_refl _)) (show vp_in (nI 5) 14 from vp_in_nI (by decide) (by decide)) dX7_ofReceiverNow_85 (fun H1 locs hP1 z1 oq1 hS => ?_)
    rw [show Int32.toNatClampNeg 5 = 5 from clI 5 (by decide)] at hP1
    have hw := hw.keep (A := fun q => q = w9) (fun q _ h => oq1 q h) (fun q h e => Nat.lt_irrefl w9 ((show q = w9 from e) ▸ hlt9 q h))
    have hna := hP1
    refine lv_dup hx hb dX7_ofReceiverNow_86 rfl ?_
    refine lv_bipush (v := 6) hx hb dX7_ofReceiverNow_87 (by decide) ?_
    refine lv_aload_n hx hb dX7_ofReceiverNow_89 rfl (lv_at hl 1 rfl) ?_
    refine lv_bipush (v := 13) hx hb dX7_ofReceiverNow_90 (by decide) ?_
    refine k_iald (v := ((N (40 + i)) 13)) hx hb hG (hw.rc hi) (show vp_in (nI 13) 22 from vp_in_nI (by decide) (by decide)) (congrArg (N (40 + i)) (clI 13 (by decide))) dX7_ofReceiverNow_92 ?_
    refine k_iast hx hb hG hna hS (Or.inr (Nat.le_refl _)) (show vp_in (nI 6) 14 from vp_in_nI (by decide) (by decide)) dX7_ofReceiverNow_93 (fun H1 locs hP1 z1 oq1 hS => ?_)
    rw [show Int32.toNatClampNeg 6 = 6 from clI 6 (by decide)] at hP1
    have hw := hw.keep (A := fun q => q = w9) (fun q _ h => oq1 q h) (fun q h e => Nat.lt_irrefl w9 ((show q = w9 from e) ▸ hlt9 q h))
    have hna := hP1
    refine lv_dup hx hb dX7_ofReceiverNow_94 rfl ?_
    refine lv_bipush (v := 7) hx hb dX7_ofReceiverNow_95 (by decide) ?_
    refine lv_aload_n hx hb dX7_ofReceiverNow_97 rfl (lv_at hl 1 rfl) ?_
    refine lv_bipush (v := 14) hx hb dX7_ofReceiverNow_98 (by decide) ?_
    refine k_iald (v := ((N (40 + i)) 14)) hx hb hG (hw.rc hi) (show vp_in (nI 14) 22 from vp_in_nI (by decide) (by decide)) (congrArg (N (40 + i)) (clI 14 (by decide))) dX7_ofReceiverNow_100 ?_
    refine k_iast hx hb hG hna hS (Or.inr (Nat.le_refl _)) (show vp_in (nI 7) 14 from vp_in_nI (by decide) (by decide)) dX7_ofReceiverNow_101 (fun H1 locs hP1 z1 oq1 hS => ?_)
    rw [show Int32.toNatClampNeg 7 = 7 from clI 7 (by decide)] at hP1
    have hw := hw.keep (A := fun q => q = w9) (fun q _ h => oq1 q h) (fun q h e => Nat.lt_irrefl w9 ((show q = w9 from e) ▸ hlt9 q h))
    have hna := hP1
    refine lv_dup hx hb dX7_ofReceiverNow_102 rfl ?_
    refine lv_bipush (v := 8) hx hb dX7_ofReceiverNow_103 (by decide) ?_
    refine lv_aload_n hx hb dX7_ofReceiverNow_105 rfl (lv_at hl 1 rfl) ?_
    refine lv_bipush (v := 15) hx hb dX7_ofReceiverNow_106 (by decide) ?_
    refine k_iald (v := ((N (40 + i)) 15)) hx hb hG (hw.rc hi) (show vp_in (nI 15) 22 from vp_in_nI (by decide) (by decide)) (congrArg (N (40 + i)) (clI 15 (by decide))) dX7_ofReceiverNow_108 ?_
    refine k_iast hx hb hG hna hS (Or.inr (Nat.le_refl _)) (show vp_in (nI 8) 14 from vp_in_nI (by decide) (by decide)) dX7_ofReceiverNow_109 (fun H1 locs hP1 z1 oq1 hS => ?_)
    rw [show Int32.toNatClampNeg 8 = 8 from clI 8 (by decide)] at hP1
    have hw := hw.keep (A := fun q => q = w9) (fun q _ h => oq1 q h) (fun q h e => Nat.lt_irrefl w9 ((show q = w9 from e) ▸ hlt9 q h))
    have hna := hP1
    refine lv_dup hx hb dX7_ofReceiverNow_110 rfl ?_
    refine lv_bipush (v := 9) hx hb dX7_ofReceiverNow_111 (by decide) ?_
    refine lv_aload_n hx hb dX7_ofReceiverNow_113 rfl (lv_at hl 1 rfl) ?_
    refine lv_bipush (v := 16) hx hb dX7_ofReceiverNow_114 (by decide) ?_
    refine k_iald (v := ((N (40 + i)) 16)) hx hb hG (hw.rc hi) (show vp_in (nI 16) 22 from vp_in_nI (by decide) (by decide)) (congrArg (N (40 + i)) (clI 16 (by decide))) dX7_ofReceiverNow_116 ?_
    refine k_iast hx hb hG hna hS (Or.inr (Nat.le_refl _)) (show vp_in (nI 9) 14 from vp_in_nI (by decide) (by decide)) dX7_ofReceiverNow_117 (fun H1 locs hP1 z1 oq1 hS => ?_)
    rw [show Int32.toNatClampNeg 9 = 9 from clI 9 (by decide)] at hP1
    have hw := hw.keep (A := fun q => q = w9) (fun q _ h => oq1 q h) (fun q h e => Nat.lt_irrefl w9 ((show q = w9 from e) ▸ hlt9 q h))
    have hna := hP1
    refine lv_dup hx hb dX7_ofReceiverNow_118 rfl ?_
    refine lv_bipush (v := 10) hx hb dX7_ofReceiverNow_119 (by decide) ?_
    refine lv_aload_n hx hb dX7_ofReceiverNow_121 rfl (lv_at hl 1 rfl) ?_
    refine lv_bipush (v := 17) hx hb dX7_ofReceiverNow_122 (by decide) ?_
    refine k_iald (v := ((N (40 + i)) 17)) hx hb hG (hw.rc hi) (show vp_in (nI 17) 22 from vp_in_nI (by decide) (by decide)) (congrArg (N (40 + i)) (clI 17 (by decide))) dX7_ofReceiverNow_124 ?_
    refine k_iast hx hb hG hna hS (Or.inr (Nat.le_refl _)) (show vp_in (nI 10) 14 from vp_in_nI (by decide) (by decide)) dX7_ofReceiverNow_125 (fun H1 locs hP1 z1 oq1 hS => ?_)
    rw [show Int32.toNatClampNeg 10 = 10 from clI 10 (by decide)] at hP1
    have hw := hw.keep (A := fun q => q = w9) (fun q _ h => oq1 q h) (fun q h e => Nat.lt_irrefl w9 ((show q = w9 from e) ▸ hlt9 q h))
    have hna := hP1
    refine lv_dup hx hb dX7_ofReceiverNow_126 rfl ?_
    refine lv_bipush (v := 11) hx hb dX7_ofReceiverNow_127 (by decide) ?_
    refine lv_aload_n hx hb dX7_ofReceiverNow_129 rfl (lv_at hl 1 rfl) ?_
    refine lv_bipush (v := 18) hx hb dX7_ofReceiverNow_130 (by decide) ?_
    refine k_iald (v := ((N (40 + i)) 18)) hx hb hG (hw.rc hi) (show vp_in (nI 18) 22 from vp_in_nI (by decide) (by decide)) (congrArg (N (40 + i)) (clI 18 (by decide))) dX7_ofReceiverNow_132 ?_
    refine k_iast hx hb hG hna hS (Or.inr (Nat.le_refl _)) (show vp_in (nI 11) 14 from vp_in_nI (by decide) (by decide)) dX7_ofReceiverNow_133 (fun H1 locs hP1 z1 oq1 hS => ?_)
    rw [show Int32.toNatClampNeg 11 = 11 from clI 11 (by decide)] at hP1
    have hw := hw.keep (A := fun q => q = w9) (fun q _ h => oq1 q h) (fun q h e => Nat.lt_irrefl w9 ((show q = w9 from e) ▸ hlt9 q h))
    have hna := hP1
    refine lv_dup hx hb dX7_ofReceiverNow_134 rfl ?_
    refine lv_bipush (v := 12) hx hb dX7_ofReceiverNow_135 (by decide) ?_
    refine lv_aload_n hx hb dX7_ofReceiverNow_137 rfl (lv_at hl 1 rfl) ?_
    refine lv_bipush (v := 19) hx hb dX7_ofReceiverNow_138 (by decide) ?_
    refine k_iald (v := ((N (40 + i)) 19)) hx hb hG (hw.rc hi) (show vp_in (nI 19) 22 from vp_in_nI (by decide) (by decide)) (congrArg (N (40 + i)) (clI 19 (by decide))) dX7_ofReceiverNow_140 ?_
    refine k_iast hx hb hG hna hS (Or.inr (Nat.le_refl _)) (show vp_in (nI 12) 14 from vp_in_nI (by decide) (by decide)) dX7_ofReceiverNow_141 (fun H1 locs hP1 z1 oq1 hS => ?_)
    rw [show Int32.toNatClampNeg 12 = 12 from clI 12 (by decide)] at hP1
    have hw := hw.keep (A := fun q => q = w9) (fun q _ h => oq1 q h) (fun q h e => Nat.lt_irrefl w9 ((show q = w9 from e) ▸ hlt9 q h))
    have hna := hP1
    refine lv_dup hx hb dX7_ofReceiverNow_142 rfl ?_
    refine lv_bipush (v := 13) hx hb dX7_ofReceiverNow_143 (by decide) ?_
    refine lv_iload hx hb dX7_ofReceiverNow_145 (lv_at hl 0 rfl) ?_
    refine k_iast hx hb hG hna hS (Or.inr (Nat.le_refl _)) (show vp_in (nI 13) 14 from vp_in_nI (by decide) (by decide)) dX7_ofReceiverNow_147 (fun H1 locs hP1 z1 oq1 hS => ?_)
    rw [show Int32.toNatClampNeg 13 = 13 from clI 13 (by decide)] at hP1
    have hw := hw.keep (A := fun q => q = w9) (fun q _ h => oq1 q h) (fun q h e => Nat.lt_irrefl w9 ((show q = w9 from e) ▸ hlt9 q h))
    have hna := hP1
    refine lv_astore (lv' := [(5, .ref w9), (4, .int (pRange ((N (40 + i)) 0) ((N (40 + i)) 1) ((N (40 + i)) 12) ((N (40 + i)) 13))), (3, .ref (md (40 + i))), (0, .ref (md 0)), (1, .int (nI i)), (2, .int w)]) hx hb dX7_ofReceiverNow_148 hl (by decide) rfl (fun ls hl => ?_)
    have hml : c.maxLocals = ls.size := hml9.trans hl.1.symm
    refine lv_aload hx hb dX7_ofReceiverNow_150 (lv_at hl 0 rfl) ?_
    refine lv_iload_n hx hb dX7_ofReceiverNow_152 rfl (lv_at hl 5 rfl) ?_
    refine k_iald (v := ((upd (upd (upd (upd (upd (upd (upd (upd (upd (upd (upd (upd (upd (upd (fun _ => 0) 0 ((N (40 + i)) 0)) 1 ((N (40 + i)) 1)) 2 (pBits (mSet (N (40 + i)) N 0 ns))) 3 ((N (40 + i)) 10)) 4 ((N (40 + i)) 11)) 5 ((N (40 + i)) 12)) 6 ((N (40 + i)) 13)) 7 ((N (40 + i)) 14)) 8 ((N (40 + i)) 15)) 9 ((N (40 + i)) 16)) 10 ((N (40 + i)) 17)) 11 ((N (40 + i)) 18)) 12 ((N (40 + i)) 19)) 13 (pRange ((N (40 + i)) 0) ((N (40 + i)) 1) ((N (40 + i)) 12) ((N (40 + i)) 13))) w.toNatClampNeg)) hx hb hG hna hw14 rfl dX7_ofReceiverNow_153 ?_
    exact ke_ui hx hb hr hlk hS dX7_ofReceiverNow_154 ⟨(by unfold mTold; rw [if_neg c_11]), hw⟩
  · refine lv_iconst (v := 0) hx hb dX7_ofReceiverNow_14 (by decide) ?_
    refine lv_goto (tgt := 35) hx hb dX7_ofReceiverNow_15 (by decide) ?_
    refine lv_istore (lv' := [(4, .int 0), (3, .ref (md (40 + i))), (0, .ref (md 0)), (1, .int (nI i)), (2, .int w)]) hx hb dX7_ofReceiverNow_35 hl (by decide) rfl (fun ls hl => ?_)
    have hml : c.maxLocals = ls.size := hml9.trans hl.1.symm
    refine lv_bipush (v := 14) hx hb dX7_ofReceiverNow_37 (by decide) ?_
    refine k_newi (q0 := w9) hx hb hG hS hsz (by decide) (N' := 14) (by decide) (by decide) (Nat.le_of_ble_eq_true rfl) (Nat.le_of_ble_eq_true rfl) dX7_ofReceiverNow_39 (fun H1 hP1 z1 o1 hS => ?_)
    have hw := hw.keep (A := fun _ => False) (fun q h _ => o1 q (by rw [hsz] at h; exact h)) (fun _ _ h => h)
    have hna := hP1
    refine lv_dup hx hb dX7_ofReceiverNow_41 rfl ?_
    refine lv_iconst (v := 0) hx hb dX7_ofReceiverNow_42 (by decide) ?_
    refine lv_aload_n hx hb dX7_ofReceiverNow_43 rfl (lv_at hl 1 rfl) ?_
    refine lv_iconst (v := 0) hx hb dX7_ofReceiverNow_44 (by decide) ?_
    refine k_iald (v := ((N (40 + i)) 0)) hx hb hG (hw.rc hi) (show vp_in (nI 0) 22 from vp_in_nI (by decide) (by decide)) (congrArg (N (40 + i)) (clI 0 (by decide))) dX7_ofReceiverNow_45 ?_
    refine k_iast hx hb hG hna hS (Or.inr (Nat.le_refl _)) (show vp_in (nI 0) 14 from vp_in_nI (by decide) (by decide)) dX7_ofReceiverNow_46 (fun H1 locs hP1 z1 oq1 hS => ?_)
    rw [show Int32.toNatClampNeg 0 = 0 from clI 0 (by decide)] at hP1
    have hw := hw.keep (A := fun q => q = w9) (fun q _ h => oq1 q h) (fun q h e => Nat.lt_irrefl w9 ((show q = w9 from e) ▸ hlt9 q h))
    have hna := hP1
    refine lv_dup hx hb dX7_ofReceiverNow_47 rfl ?_
    refine lv_iconst (v := 1) hx hb dX7_ofReceiverNow_48 (by decide) ?_
    refine lv_aload_n hx hb dX7_ofReceiverNow_49 rfl (lv_at hl 1 rfl) ?_
    refine lv_iconst (v := 1) hx hb dX7_ofReceiverNow_50 (by decide) ?_
    refine k_iald (v := ((N (40 + i)) 1)) hx hb hG (hw.rc hi) (show vp_in (nI 1) 22 from vp_in_nI (by decide) (by decide)) (congrArg (N (40 + i)) (clI 1 (by decide))) dX7_ofReceiverNow_51 ?_
    refine k_iast hx hb hG hna hS (Or.inr (Nat.le_refl _)) (show vp_in (nI 1) 14 from vp_in_nI (by decide) (by decide)) dX7_ofReceiverNow_52 (fun H1 locs hP1 z1 oq1 hS => ?_)
    rw [show Int32.toNatClampNeg 1 = 1 from clI 1 (by decide)] at hP1
    have hw := hw.keep (A := fun q => q = w9) (fun q _ h => oq1 q h) (fun q h e => Nat.lt_irrefl w9 ((show q = w9 from e) ▸ hlt9 q h))
    have hna := hP1
    refine lv_dup hx hb dX7_ofReceiverNow_53 rfl ?_
    refine lv_iconst (v := 2) hx hb dX7_ofReceiverNow_54 (by decide) ?_
    refine lv_aload_n hx hb dX7_ofReceiverNow_55 rfl (lv_at hl 2 rfl) ?_
    refine lv_iload_n hx hb dX7_ofReceiverNow_56 rfl (lv_at hl 3 rfl) ?_
    refine lv_iconst (v := 0) hx hb dX7_ofReceiverNow_57 (by decide) ?_
    refine kc_i (kr_V (As := [.int (nI i), .int 0]) (rest := [.int 2, .ref w9, .ref w9]) hx hb hml hown hG (c_X7_setSeen l D cy md N co su ns hL.1 hN.1 i hi 0) cf_X7_setSeen wM_X7_122 hw.o rfl hw ⟨rfl, rfl, by decide, by decide⟩ rfl rfl (Nat.le_of_ble_eq_true rfl) ⟨Nat.le_of_ble_eq_true rfl, Nat.le_of_ble_eq_true rfl⟩ dX7_ofReceiverNow_58) ?_
    refine kc_i (kr_S (As := [.int (mSet (N (40 + i)) N 0 ns)]) (rest := [.int 2, .ref w9, .ref w9]) hx hb hml hown hG (c_J6_bitCount_0f7a4 l D cy (mSet (N (40 + i)) N 0 ns)) cf_J6_bitCount_0f7a4 wM_X7_125 trivial ⟨rfl, rfl, by decide, by decide⟩ rfl rfl (Nat.le_of_ble_eq_true rfl) ⟨Nat.le_of_ble_eq_true rfl, Nat.le_of_ble_eq_true rfl⟩ dX7_ofReceiverNow_61) ?_
    refine k_iast hx hb hG hna hS (Or.inr (Nat.le_refl _)) (show vp_in (nI 2) 14 from vp_in_nI (by decide) (by decide)) dX7_ofReceiverNow_64 (fun H1 locs hP1 z1 oq1 hS => ?_)
    rw [show Int32.toNatClampNeg 2 = 2 from clI 2 (by decide)] at hP1
    have hw := hw.keep (A := fun q => q = w9) (fun q _ h => oq1 q h) (fun q h e => Nat.lt_irrefl w9 ((show q = w9 from e) ▸ hlt9 q h))
    have hna := hP1
    refine lv_dup hx hb dX7_ofReceiverNow_65 rfl ?_
    refine lv_iconst (v := 3) hx hb dX7_ofReceiverNow_66 (by decide) ?_
    refine lv_aload_n hx hb dX7_ofReceiverNow_67 rfl (lv_at hl 1 rfl) ?_
    refine lv_bipush (v := 10) hx hb dX7_ofReceiverNow_68 (by decide) ?_
    refine k_iald (v := ((N (40 + i)) 10)) hx hb hG (hw.rc hi) (show vp_in (nI 10) 22 from vp_in_nI (by decide) (by decide)) (congrArg (N (40 + i)) (clI 10 (by decide))) dX7_ofReceiverNow_70 ?_
    refine k_iast hx hb hG hna hS (Or.inr (Nat.le_refl _)) (show vp_in (nI 3) 14 from vp_in_nI (by decide) (by decide)) dX7_ofReceiverNow_71 (fun H1 locs hP1 z1 oq1 hS => ?_)
    rw [show Int32.toNatClampNeg 3 = 3 from clI 3 (by decide)] at hP1
    have hw := hw.keep (A := fun q => q = w9) (fun q _ h => oq1 q h) (fun q h e => Nat.lt_irrefl w9 ((show q = w9 from e) ▸ hlt9 q h))
    have hna := hP1
    refine lv_dup hx hb dX7_ofReceiverNow_72 rfl ?_
    refine lv_iconst (v := 4) hx hb dX7_ofReceiverNow_73 (by decide) ?_
    refine lv_aload_n hx hb dX7_ofReceiverNow_74 rfl (lv_at hl 1 rfl) ?_
    refine lv_bipush (v := 11) hx hb dX7_ofReceiverNow_75 (by decide) ?_
    refine k_iald (v := ((N (40 + i)) 11)) hx hb hG (hw.rc hi) (show vp_in (nI 11) 22 from vp_in_nI (by decide) (by decide)) (congrArg (N (40 + i)) (clI 11 (by decide))) dX7_ofReceiverNow_77 ?_
    refine k_iast hx hb hG hna hS (Or.inr (Nat.le_refl _)) (show vp_in (nI 4) 14 from vp_in_nI (by decide) (by decide)) dX7_ofReceiverNow_78 (fun H1 locs hP1 z1 oq1 hS => ?_)
    rw [show Int32.toNatClampNeg 4 = 4 from clI 4 (by decide)] at hP1
    have hw := hw.keep (A := fun q => q = w9) (fun q _ h => oq1 q h) (fun q h e => Nat.lt_irrefl w9 ((show q = w9 from e) ▸ hlt9 q h))
    have hna := hP1
    refine lv_dup hx hb dX7_ofReceiverNow_79 rfl ?_
    refine lv_iconst (v := 5) hx hb dX7_ofReceiverNow_80 (by decide) ?_
    refine lv_aload_n hx hb dX7_ofReceiverNow_81 rfl (lv_at hl 1 rfl) ?_
    refine lv_bipush (v := 12) hx hb dX7_ofReceiverNow_82 (by decide) ?_
    refine k_iald (v := ((N (40 + i)) 12)) hx hb hG (hw.rc hi) (show vp_in (nI 12) 22 from vp_in_nI (by decide) (by decide)) (congrArg (N (40 + i)) (clI 12 (by decide))) dX7_ofReceiverNow_84 ?_
    refine k_iast hx hb hG hna hS (Or.inr (Nat.le_refl _)) (show vp_in (nI 5) 14 from vp_in_nI (by decide) (by decide)) dX7_ofReceiverNow_85 (fun H1 locs hP1 z1 oq1 hS => ?_)
    rw [show Int32.toNatClampNeg 5 = 5 from clI 5 (by decide)] at hP1
    have hw := hw.keep (A := fun q => q = w9) (fun q _ h => oq1 q h) (fun q h e => Nat.lt_irrefl w9 ((show q = w9 from e) ▸ hlt9 q h))
    have hna := hP1
    refine lv_dup hx hb dX7_ofReceiverNow_86 rfl ?_
    refine lv_bipush (v := 6) hx hb dX7_ofReceiverNow_87 (by decide) ?_
    refine lv_aload_n hx hb dX7_ofReceiverNow_89 rfl (lv_at hl 1 rfl) ?_
    refine lv_bipush (v := 13) hx hb dX7_ofReceiverNow_90 (by decide) ?_
    refine k_iald (v := ((N (40 + i)) 13)) hx hb hG (hw.rc hi) (show vp_in (nI 13) 22 from vp_in_nI (by decide) (by decide)) (congrArg (N (40 + i)) (clI 13 (by decide))) dX7_ofReceiverNow_92 ?_
    refine k_iast hx hb hG hna hS (Or.inr (Nat.le_refl _)) (show vp_in (nI 6) 14 from vp_in_nI (by decide) (by decide)) dX7_ofReceiverNow_93 (fun H1 locs hP1 z1 oq1 hS => ?_)
    rw [show Int32.toNatClampNeg 6 = 6 from clI 6 (by decide)] at hP1
    have hw := hw.keep (A := fun q => q = w9) (fun q _ h => oq1 q h) (fun q h e => Nat.lt_irrefl w9 ((show q = w9 from e) ▸ hlt9 q h))
    have hna := hP1
    refine lv_dup hx hb dX7_ofReceiverNow_94 rfl ?_
    refine lv_bipush (v := 7) hx hb dX7_ofReceiverNow_95 (by decide) ?_
    refine lv_aload_n hx hb dX7_ofReceiverNow_97 rfl (lv_at hl 1 rfl) ?_
    refine lv_bipush (v := 14) hx hb dX7_ofReceiverNow_98 (by decide) ?_
    refine k_iald (v := ((N (40 + i)) 14)) hx hb hG (hw.rc hi) (show vp_in (nI 14) 22 from vp_in_nI (by decide) (by decide)) (congrArg (N (40 + i)) (clI 14 (by decide))) dX7_ofReceiverNow_100 ?_
    refine k_iast hx hb hG hna hS (Or.inr (Nat.le_refl _)) (show vp_in (nI 7) 14 from vp_in_nI (by decide) (by decide)) dX7_ofReceiverNow_101 (fun H1 locs hP1 z1 oq1 hS => ?_)
    rw [show Int32.toNatClampNeg 7 = 7 from clI 7 (by decide)] at hP1
    have hw := hw.keep (A := fun q => q = w9) (fun q _ h => oq1 q h) (fun q h e => Nat.lt_irrefl w9 ((show q = w9 from e) ▸ hlt9 q h))
    have hna := hP1
    refine lv_dup hx hb dX7_ofReceiverNow_102 rfl ?_
    refine lv_bipush (v := 8) hx hb dX7_ofReceiverNow_103 (by decide) ?_
    refine lv_aload_n hx hb dX7_ofReceiverNow_105 rfl (lv_at hl 1 rfl) ?_
    refine lv_bipush (v := 15) hx hb dX7_ofReceiverNow_106 (by decide) ?_
    refine k_iald (v := ((N (40 + i)) 15)) hx hb hG (hw.rc hi) (show vp_in (nI 15) 22 from vp_in_nI (by decide) (by decide)) (congrArg (N (40 + i)) (clI 15 (by decide))) dX7_ofReceiverNow_108 ?_
    refine k_iast hx hb hG hna hS (Or.inr (Nat.le_refl _)) (show vp_in (nI 8) 14 from vp_in_nI (by decide) (by decide)) dX7_ofReceiverNow_109 (fun H1 locs hP1 z1 oq1 hS => ?_)
    rw [show Int32.toNatClampNeg 8 = 8 from clI 8 (by decide)] at hP1
    have hw := hw.keep (A := fun q => q = w9) (fun q _ h => oq1 q h) (fun q h e => Nat.lt_irrefl w9 ((show q = w9 from e) ▸ hlt9 q h))
    have hna := hP1
    refine lv_dup hx hb dX7_ofReceiverNow_110 rfl ?_
    refine lv_bipush (v := 9) hx hb dX7_ofReceiverNow_111 (by decide) ?_
    refine lv_aload_n hx hb dX7_ofReceiverNow_113 rfl (lv_at hl 1 rfl) ?_
    refine lv_bipush (v := 16) hx hb dX7_ofReceiverNow_114 (by decide) ?_
    refine k_iald (v := ((N (40 + i)) 16)) hx hb hG (hw.rc hi) (show vp_in (nI 16) 22 from vp_in_nI (by decide) (by decide)) (congrArg (N (40 + i)) (clI 16 (by decide))) dX7_ofReceiverNow_116 ?_
    refine k_iast hx hb hG hna hS (Or.inr (Nat.le_refl _)) (show vp_in (nI 9) 14 from vp_in_nI (by decide) (by decide)) dX7_ofReceiverNow_117 (fun H1 locs hP1 z1 oq1 hS => ?_)
    rw [show Int32.toNatClampNeg 9 = 9 from clI 9 (by decide)] at hP1
    have hw := hw.keep (A := fun q => q = w9) (fun q _ h => oq1 q h) (fun q h e => Nat.lt_irrefl w9 ((show q = w9 from e) ▸ hlt9 q h))
    have hna := hP1
    refine lv_dup hx hb dX7_ofReceiverNow_118 rfl ?_
    refine lv_bipush (v := 10) hx hb dX7_ofReceiverNow_119 (by decide) ?_
    refine lv_aload_n hx hb dX7_ofReceiverNow_121 rfl (lv_at hl 1 rfl) ?_
    refine lv_bipush (v := 17) hx hb dX7_ofReceiverNow_122 (by decide) ?_
    refine k_iald (v := ((N (40 + i)) 17)) hx hb hG (hw.rc hi) (show vp_in (nI 17) 22 from vp_in_nI (by decide) (by decide)) (congrArg (N (40 + i)) (clI 17 (by decide))) dX7_ofReceiverNow_124 ?_
    refine k_iast hx hb hG hna hS (Or.inr (Nat.le_refl _)) (show vp_in (nI 10) 14 from vp_in_nI (by decide) (by decide)) dX7_ofReceiverNow_125 (fun H1 locs hP1 z1 oq1 hS => ?_)
    rw [show Int32.toNatClampNeg 10 = 10 from clI 10 (by decide)] at hP1
    have hw := hw.keep (A := fun q => q = w9) (fun q _ h => oq1 q h) (fun q h e => Nat.lt_irrefl w9 ((show q = w9 from e) ▸ hlt9 q h))
    have hna := hP1
    refine lv_dup hx hb dX7_ofReceiverNow_126 rfl ?_
    refine lv_bipush (v := 11) hx hb dX7_ofReceiverNow_127 (by decide) ?_
    refine lv_aload_n hx hb dX7_ofReceiverNow_129 rfl (lv_at hl 1 rfl) ?_
    refine lv_bipush (v := 18) hx hb dX7_ofReceiverNow_130 (by decide) ?_
    refine k_iald (v := ((N (40 + i)) 18)) hx hb hG (hw.rc hi) (show vp_in (nI 18) 22 from vp_in_nI (by decide) (by decide)) (congrArg (N (40 + i)) (clI 18 (by decide))) dX7_ofReceiverNow_132 ?_
    refine k_iast hx hb hG hna hS (Or.inr (Nat.le_refl _)) (show vp_in (nI 11) 14 from vp_in_nI (by decide) (by decide)) dX7_ofReceiverNow_133 (fun H1 locs hP1 z1 oq1 hS => ?_)
    rw [show Int32.toNatClampNeg 11 = 11 from clI 11 (by decide)] at hP1
    have hw := hw.keep (A := fun q => q = w9) (fun q _ h => oq1 q h) (fun q h e => Nat.lt_irrefl w9 ((show q = w9 from e) ▸ hlt9 q h))
    have hna := hP1
    refine lv_dup hx hb dX7_ofReceiverNow_134 rfl ?_
    refine lv_bipush (v := 12) hx hb dX7_ofReceiverNow_135 (by decide) ?_
    refine lv_aload_n hx hb dX7_ofReceiverNow_137 rfl (lv_at hl 1 rfl) ?_
    refine lv_bipush (v := 19) hx hb dX7_ofReceiverNow_138 (by decide) ?_
    refine k_iald (v := ((N (40 + i)) 19)) hx hb hG (hw.rc hi) (show vp_in (nI 19) 22 from vp_in_nI (by decide) (by decide)) (congrArg (N (40 + i)) (clI 19 (by decide))) dX7_ofReceiverNow_140 ?_
    refine k_iast hx hb hG hna hS (Or.inr (Nat.le_refl _)) (show vp_in (nI 12) 14 from vp_in_nI (by decide) (by decide)) dX7_ofReceiverNow_141 (fun H1 locs hP1 z1 oq1 hS => ?_)
    rw [show Int32.toNatClampNeg 12 = 12 from clI 12 (by decide)] at hP1
    have hw := hw.keep (A := fun q => q = w9) (fun q _ h => oq1 q h) (fun q h e => Nat.lt_irrefl w9 ((show q = w9 from e) ▸ hlt9 q h))
    have hna := hP1
    refine lv_dup hx hb dX7_ofReceiverNow_142 rfl ?_
    refine lv_bipush (v := 13) hx hb dX7_ofReceiverNow_143 (by decide) ?_
    refine lv_iload hx hb dX7_ofReceiverNow_145 (lv_at hl 0 rfl) ?_
    refine k_iast hx hb hG hna hS (Or.inr (Nat.le_refl _)) (show vp_in (nI 13) 14 from vp_in_nI (by decide) (by decide)) dX7_ofReceiverNow_147 (fun H1 locs hP1 z1 oq1 hS => ?_)
    rw [show Int32.toNatClampNeg 13 = 13 from clI 13 (by decide)] at hP1
    have hw := hw.keep (A := fun q => q = w9) (fun q _ h => oq1 q h) (fun q h e => Nat.lt_irrefl w9 ((show q = w9 from e) ▸ hlt9 q h))
    have hna := hP1
    refine lv_astore (lv' := [(5, .ref w9), (4, .int 0), (3, .ref (md (40 + i))), (0, .ref (md 0)), (1, .int (nI i)), (2, .int w)]) hx hb dX7_ofReceiverNow_148 hl (by decide) rfl (fun ls hl => ?_)
    have hml : c.maxLocals = ls.size := hml9.trans hl.1.symm
    refine lv_aload hx hb dX7_ofReceiverNow_150 (lv_at hl 0 rfl) ?_
    refine lv_iload_n hx hb dX7_ofReceiverNow_152 rfl (lv_at hl 5 rfl) ?_
    refine k_iald (v := ((upd (upd (upd (upd (upd (upd (upd (upd (upd (upd (upd (upd (upd (upd (fun _ => 0) 0 ((N (40 + i)) 0)) 1 ((N (40 + i)) 1)) 2 (pBits (mSet (N (40 + i)) N 0 ns))) 3 ((N (40 + i)) 10)) 4 ((N (40 + i)) 11)) 5 ((N (40 + i)) 12)) 6 ((N (40 + i)) 13)) 7 ((N (40 + i)) 14)) 8 ((N (40 + i)) 15)) 9 ((N (40 + i)) 16)) 10 ((N (40 + i)) 17)) 11 ((N (40 + i)) 18)) 12 ((N (40 + i)) 19)) 13 0) w.toNatClampNeg)) hx hb hG hna hw14 rfl dX7_ofReceiverNow_153 ?_
    exact ke_ui hx hb hr hlk hS dX7_ofReceiverNow_154 ⟨(by unfold mTold; rw [if_pos c_11]), hw⟩
set_option maxHeartbeats 4000000 in
set_option maxRecDepth 100000 in
theorem c_X7_manyNow (l : Launch) (D : va_G) (cy : Nat → ClassId) (md : Nat → Nat) (N : Nat → Nat → Int32) (co su : Int64) (hA : MI md) (ns nt nr : Nat) (hL : LB ns nt nr) (hN : MN N ns nt nr) (w : Int32) (hw9 : vp_in w 9) (w9 : Nat) : Met l yX7_manyNow [.code yX7_manyNow cX7_manyNow 7 (some .int)] ({ frames := 2, cells := 1, slots := 9, locals := 42 } : Room) (PC D cy [.ref (md 0), .int w] (fun H => MW D cy md N co su H ∧ H.size = w9)) (UQi (fun q => MA md q ∨ w9 ≤ q) (fun r H => r = mMany N ns nr w.toNatClampNeg ∧ MW D cy md N co su H)) 1 9 (fun q => MA md q ∨ w9 ≤ q) := by
  refine k_body (by decide +kernel) (Nat.le_of_ble_eq_true rfl) ?_
  intro p e s m below meth c ls hx hb hml hown hr hlk hmn hl hG hI
  have hml9 : c.maxLocals = 7 := hml.trans hl.1
  have hl : lv_has ls 7 [(0, .ref (md 0)), (1, .int w)] := hl
  obtain ⟨hw, hsz⟩ := hI
  have hS : va_S (fun q => MA md q ∨ w9 ≤ q) s.heap s.heap [] := va_S.rf
  have hlt9 : ∀ q, MA md q → q < w9 := fun q h => by obtain ⟨k, hk, rfl⟩ := h; exact hsz ▸ hw.lt hk
  have hL1 := hL.1
  have hL2 := hL.2.1
  have hL3 := hL.2.2
  refine lv_iconst (v := 0) hx hb dX7_manyNow_0 (by decide) ?_
  refine lv_istore_n (lv' := [(2, .int 0), (0, .ref (md 0)), (1, .int w)]) hx hb dX7_manyNow_1 rfl hl (by decide) rfl (fun ls hl => ?_)
  have hml : c.maxLocals = ls.size := hml9.trans hl.1.symm
  refine lv_iconst (v := 0) hx hb dX7_manyNow_2 (by decide) ?_
  refine lv_istore_n (lv' := [(3, .int 0), (2, .int 0), (0, .ref (md 0)), (1, .int w)]) hx hb dX7_manyNow_3 rfl hl (by decide) rfl (fun ls hl => ?_)
  have hml : c.maxLocals = ls.size := hml9.trans hl.1.symm
  refine lv_iconst (v := 0) hx hb dX7_manyNow_4 (by decide) ?_
  refine lv_istore (lv' := [(4, .int 0), (3, .int 0), (2, .int 0), (0, .ref (md 0)), (1, .int w)]) hx hb dX7_manyNow_5 hl (by decide) rfl (fun ls hl => ?_)
  have hml : c.maxLocals = ls.size := hml9.trans hl.1.symm
  refine lv_iconst (v := 0) hx hb dX7_manyNow_7 (by decide) ?_
  refine lv_istore (lv' := [(5, .int 0), (4, .int 0), (3, .int 0), (2, .int 0), (0, .ref (md 0)), (1, .int w)]) hx hb dX7_manyNow_8 hl (by decide) rfl (fun ls hl => ?_)
  have hml : c.maxLocals = ls.size := hml9.trans hl.1.symm
  refine lv_iconst (v := 0) hx hb dX7_manyNow_10 (by decide) ?_
  refine lv_istore (lv' := [(6, .int 0), (5, .int 0), (4, .int 0), (3, .int 0), (2, .int 0), (0, .ref (md 0)), (1, .int w)]) hx hb dX7_manyNow_11 hl (by decide) rfl (fun ls hl => ?_)
  have hml : c.maxLocals = ls.size := hml9.trans hl.1.symm
  have lp13_1 : ∀ (n9 : Nat) (j : Nat) (xa xb xc : Int32), ns + 1 - j ≤ n9 → j ≤ ns → xa = mSumA N j → xb = mSumB N j → xc = mSumC N j →  ∀ ls : Array Slot, lv_has ls 7 [(6, .int (nI j)), (5, .int 0), (4, .int xc), (3, .int xb), (2, .int xa), (0, .ref (md 0)), (1, .int w)] → W p l e ({ frames := 2, cells := 1, slots := 9, locals := 42 } : Room) s m ([.ref (md 0), .int w] : List Value).toArray below meth c s.heap [] 0 0 (MQ below (UQi (fun q => MA md q ∨ w9 ≤ q) (fun r H => r = mMany N ns nr w.toNatClampNeg ∧ MW D cy md N co su H)) ([.ref (md 0), .int w] : List Value).toArray s 1 9 (fun q => MA md q ∨ w9 ≤ q)) (F0 m 13 ls []) := by
    intro n9
    induction n9 with
    | zero =>
      intro j xa xb xc h9
      intro hj; exact absurd h9 (by omega)
    | succ n9 ih9 =>
      intro j xa xb xc hn9 hj ea eb ec ls hl
      have hml : c.maxLocals = ls.size := hml9.trans hl.1.symm
      refine lv_iload hx hb dX7_manyNow_13 (lv_at hl 0 rfl) ?_
      refine lv_aload_n hx hb dX7_manyNow_15 rfl (lv_at hl 5 rfl) ?_
      refine k_get (ci := 7) (C := RX7) (T := TX7) (N := 20) (v := .int ((N 0) 8)) hx hb hown hG rfl kin_X7 hw.o 8 (by decide) wF_X7_79 rfl dX7_manyNow_16 ?_
      refine lv_icmp_ge (tgt := 71) hx hb dX7_manyNow_19 (by decide) (fun c_19 => ?_) (fun c_19 => ?_)
      · rw [hN.1] at c_19
        have enj : j = ns := Nat.le_antisymm hj ((nI_leI (by omega) (by omega)).mp c_19)
        refine lv_iconst (v := 0) hx hb dX7_manyNow_71 (by decide) ?_
        refine lv_istore (lv' := [(6, .int 0), (5, .int 0), (4, .int xc), (3, .int xb), (2, .int xa), (0, .ref (md 0)), (1, .int w)]) hx hb dX7_manyNow_72 hl (by decide) rfl (fun ls hl => ?_)
        have hml : c.maxLocals = ls.size := hml9.trans hl.1.symm
        rw [enj] at ea eb ec
        have lp74_2 : ∀ (n9 : Nat) (u : Nat) (xd : Int32), nr + 1 - u ≤ n9 → u ≤ nr → xd = mSumD N u →  ∀ ls : Array Slot, lv_has ls 7 [(6, .int (nI u)), (5, .int xd), (4, .int xc), (3, .int xb), (2, .int xa), (0, .ref (md 0)), (1, .int w)] → W p l e ({ frames := 2, cells := 1, slots := 9, locals := 42 } : Room) s m ([.ref (md 0), .int w] : List Value).toArray below meth c s.heap [] 0 0 (MQ below (UQi (fun q => MA md q ∨ w9 ≤ q) (fun r H => r = mMany N ns nr w.toNatClampNeg ∧ MW D cy md N co su H)) ([.ref (md 0), .int w] : List Value).toArray s 1 9 (fun q => MA md q ∨ w9 ≤ q)) (F0 m 74 ls []) := by
          intro n9
          induction n9 with
          | zero =>
            intro u xd h9
            intro hj; exact absurd h9 (by omega)
          | succ n9 ih9 =>
            intro u xd hn9 hu eu ls hl
            have hml : c.maxLocals = ls.size := hml9.trans hl.1.symm
            refine lv_iload hx hb dX7_manyNow_74 (lv_at hl 0 rfl) ?_
            refine lv_aload_n hx hb dX7_manyNow_76 rfl (lv_at hl 5 rfl) ?_
            refine k_get (ci := 7) (C := RX7) (T := TX7) (N := 20) (v := .int ((N 0) 10)) hx hb hown hG rfl kin_X7 hw.o 10 (by decide) wF_X7_92 rfl dX7_manyNow_77 ?_
            refine lv_icmp_ge (tgt := 104) hx hb dX7_manyNow_80 (by decide) (fun c_80 => ?_) (fun c_80 => ?_)
            · rw [hN.2.2] at c_80
              have enu : u = nr := Nat.le_antisymm hu ((nI_leI (by omega) (by omega)).mp c_80)
              refine lv_bipush (v := 9) hx hb dX7_manyNow_104 (by decide) ?_
              refine k_newi (q0 := w9) hx hb hG hS hsz (by decide) (N' := 9) (by decide) (by decide) (Nat.le_of_ble_eq_true rfl) (Nat.le_of_ble_eq_true rfl) dX7_manyNow_106 (fun H1 hP1 z1 o1 hS => ?_)
              have hw := hw.keep (A := fun _ => False) (fun q h _ => o1 q (by rw [hsz] at h; exact h)) (fun _ _ h => h)
              have hna := hP1
              refine lv_dup hx hb dX7_manyNow_108 rfl ?_
              refine lv_iconst (v := 0) hx hb dX7_manyNow_109 (by decide) ?_
              refine lv_aload_n hx hb dX7_manyNow_110 rfl (lv_at hl 5 rfl) ?_
              refine k_get (ci := 7) (C := RX7) (T := TX7) (N := 20) (v := .int ((N 0) 1)) hx hb hown hG rfl kin_X7 hw.o 1 (by decide) wF_X7_64 rfl dX7_manyNow_111 ?_
              refine k_iast hx hb hG hna hS (Or.inr (Nat.le_refl _)) (show vp_in (nI 0) 9 from vp_in_nI (by decide) (by decide)) dX7_manyNow_114 (fun H1 locs hP1 z1 oq1 hS => ?_)
              rw [show Int32.toNatClampNeg 0 = 0 from clI 0 (by decide)] at hP1
              have hw := hw.keep (A := fun q => q = w9) (fun q _ h => oq1 q h) (fun q h e => Nat.lt_irrefl w9 ((show q = w9 from e) ▸ hlt9 q h))
              have hna := hP1
              refine lv_dup hx hb dX7_manyNow_115 rfl ?_
              refine lv_iconst (v := 1) hx hb dX7_manyNow_116 (by decide) ?_
              refine lv_aload_n hx hb dX7_manyNow_117 rfl (lv_at hl 5 rfl) ?_
              refine k_get (ci := 7) (C := RX7) (T := TX7) (N := 20) (v := .int ((N 0) 8)) hx hb hown hG rfl kin_X7 hw.o 8 (by decide) wF_X7_79 rfl dX7_manyNow_118 ?_
              refine k_iast hx hb hG hna hS (Or.inr (Nat.le_refl _)) (show vp_in (nI 1) 9 from vp_in_nI (by decide) (by decide)) dX7_manyNow_121 (fun H1 locs hP1 z1 oq1 hS => ?_)
              rw [show Int32.toNatClampNeg 1 = 1 from clI 1 (by decide)] at hP1
              have hw := hw.keep (A := fun q => q = w9) (fun q _ h => oq1 q h) (fun q h e => Nat.lt_irrefl w9 ((show q = w9 from e) ▸ hlt9 q h))
              have hna := hP1
              refine lv_dup hx hb dX7_manyNow_122 rfl ?_
              refine lv_iconst (v := 2) hx hb dX7_manyNow_123 (by decide) ?_
              refine lv_aload_n hx hb dX7_manyNow_124 rfl (lv_at hl 5 rfl) ?_
              refine k_get (ci := 7) (C := RX7) (T := TX7) (N := 20) (v := .int ((N 0) 9)) hx hb hown hG rfl kin_X7 hw.o 9 (by decide) wF_X7_89 rfl dX7_manyNow_125 ?_
              refine k_iast hx hb hG hna hS (Or.inr (Nat.le_refl _)) (show vp_in (nI 2) 9 from vp_in_nI (by decide) (by decide)) dX7_manyNow_128 (fun H1 locs hP1 z1 oq1 hS => ?_)
              rw [show Int32.toNatClampNeg 2 = 2 from clI 2 (by decide)] at hP1
              have hw := hw.keep (A := fun q => q = w9) (fun q _ h => oq1 q h) (fun q h e => Nat.lt_irrefl w9 ((show q = w9 from e) ▸ hlt9 q h))
              have hna := hP1
              refine lv_dup hx hb dX7_manyNow_129 rfl ?_
              refine lv_iconst (v := 3) hx hb dX7_manyNow_130 (by decide) ?_
              refine lv_aload_n hx hb dX7_manyNow_131 rfl (lv_at hl 5 rfl) ?_
              refine k_get (ci := 7) (C := RX7) (T := TX7) (N := 20) (v := .int ((N 0) 10)) hx hb hown hG rfl kin_X7 hw.o 10 (by decide) wF_X7_92 rfl dX7_manyNow_132 ?_
              refine k_iast hx hb hG hna hS (Or.inr (Nat.le_refl _)) (show vp_in (nI 3) 9 from vp_in_nI (by decide) (by decide)) dX7_manyNow_135 (fun H1 locs hP1 z1 oq1 hS => ?_)
              rw [show Int32.toNatClampNeg 3 = 3 from clI 3 (by decide)] at hP1
              have hw := hw.keep (A := fun q => q = w9) (fun q _ h => oq1 q h) (fun q h e => Nat.lt_irrefl w9 ((show q = w9 from e) ▸ hlt9 q h))
              have hna := hP1
              refine lv_dup hx hb dX7_manyNow_136 rfl ?_
              refine lv_iconst (v := 4) hx hb dX7_manyNow_137 (by decide) ?_
              refine lv_iload_n hx hb dX7_manyNow_138 rfl (lv_at hl 4 rfl) ?_
              refine k_iast hx hb hG hna hS (Or.inr (Nat.le_refl _)) (show vp_in (nI 4) 9 from vp_in_nI (by decide) (by decide)) dX7_manyNow_139 (fun H1 locs hP1 z1 oq1 hS => ?_)
              rw [show Int32.toNatClampNeg 4 = 4 from clI 4 (by decide)] at hP1
              have hw := hw.keep (A := fun q => q = w9) (fun q _ h => oq1 q h) (fun q h e => Nat.lt_irrefl w9 ((show q = w9 from e) ▸ hlt9 q h))
              have hna := hP1
              refine lv_dup hx hb dX7_manyNow_140 rfl ?_
              refine lv_iconst (v := 5) hx hb dX7_manyNow_141 (by decide) ?_
              refine lv_iload_n hx hb dX7_manyNow_142 rfl (lv_at hl 3 rfl) ?_
              refine k_iast hx hb hG hna hS (Or.inr (Nat.le_refl _)) (show vp_in (nI 5) 9 from vp_in_nI (by decide) (by decide)) dX7_manyNow_143 (fun H1 locs hP1 z1 oq1 hS => ?_)
              rw [show Int32.toNatClampNeg 5 = 5 from clI 5 (by decide)] at hP1
              have hw := hw.keep (A := fun q => q = w9) (fun q _ h => oq1 q h) (fun q h e => Nat.lt_irrefl w9 ((show q = w9 from e) ▸ hlt9 q h))
              have hna := hP1
              refine lv_dup hx hb dX7_manyNow_144 rfl ?_
              refine lv_bipush (v := 6) hx hb dX7_manyNow_145 (by decide) ?_
              refine lv_iload hx hb dX7_manyNow_147 (lv_at hl 2 rfl) ?_
              refine k_iast hx hb hG hna hS (Or.inr (Nat.le_refl _)) (show vp_in (nI 6) 9 from vp_in_nI (by decide) (by decide)) dX7_manyNow_149 (fun H1 locs hP1 z1 oq1 hS => ?_)
              rw [show Int32.toNatClampNeg 6 = 6 from clI 6 (by decide)] at hP1
              have hw := hw.keep (A := fun q => q = w9) (fun q _ h => oq1 q h) (fun q h e => Nat.lt_irrefl w9 ((show q = w9 from e) ▸ hlt9 q h))
              have hna := hP1
              refine lv_dup hx hb dX7_manyNow_150 rfl ?_
              refine lv_bipush (v := 7) hx hb dX7_manyNow_151 (by decide) ?_
              refine lv_aload_n hx hb dX7_manyNow_153 rfl (lv_at hl 5 rfl) ?_
              refine k_get (ci := 7) (C := RX7) (T := TX7) (N := 20) (v := .int ((N 0) 2)) hx hb hown hG rfl kin_X7 hw.o 2 (by decide) wF_X7_192 rfl dX7_manyNow_154 ?_
              refine k_iast hx hb hG hna hS (Or.inr (Nat.le_refl _)) (show vp_in (nI 7) 9 from vp_in_nI (by decide) (by decide)) dX7_manyNow_157 (fun H1 locs hP1 z1 oq1 hS => ?_)
              rw [show Int32.toNatClampNeg 7 = 7 from clI 7 (by decide)] at hP1
              have hw := hw.keep (A := fun q => q = w9) (fun q _ h => oq1 q h) (fun q h e => Nat.lt_irrefl w9 ((show q = w9 from e) ▸ hlt9 q h))
              have hna := hP1
              refine lv_dup hx hb dX7_manyNow_158 rfl ?_
              refine lv_bipush (v := 8) hx hb dX7_manyNow_159 (by decide) ?_
              refine lv_iload hx hb dX7_manyNow_161 (lv_at hl 1 rfl) ?_
              refine k_iast hx hb hG hna hS (Or.inr (Nat.le_refl _)) (show vp_in (nI 8) 9 from vp_in_nI (by decide) (by decide)) dX7_manyNow_163 (fun H1 locs hP1 z1 oq1 hS => ?_)
              rw [show Int32.toNatClampNeg 8 = 8 from clI 8 (by decide)] at hP1
              have hw := hw.keep (A := fun q => q = w9) (fun q _ h => oq1 q h) (fun q h e => Nat.lt_irrefl w9 ((show q = w9 from e) ▸ hlt9 q h))
              have hna := hP1
              refine lv_astore (lv' := [(6, .ref w9), (5, .int xd), (4, .int xc), (3, .int xb), (2, .int xa), (0, .ref (md 0)), (1, .int w)]) hx hb dX7_manyNow_164 hl (by decide) rfl (fun ls hl => ?_)
              have hml : c.maxLocals = ls.size := hml9.trans hl.1.symm
              refine lv_aload hx hb dX7_manyNow_166 (lv_at hl 0 rfl) ?_
              refine lv_iload_n hx hb dX7_manyNow_168 rfl (lv_at hl 6 rfl) ?_
              refine k_iald (v := ((upd (upd (upd (upd (upd (upd (upd (upd (upd (fun _ => 0) 0 ((N 0) 1)) 1 ((N 0) 8)) 2 ((N 0) 9)) 3 ((N 0) 10)) 4 xa) 5 xb) 6 xc) 7 ((N 0) 2)) 8 xd) w.toNatClampNeg)) hx hb hG hna hw9 rfl dX7_manyNow_169 ?_
              exact ke_ui hx hb hr hlk hS dX7_manyNow_170 ⟨(by rw [enu] at eu; unfold mMany; rw [← eu, ← ea, ← eb, ← ec]), hw⟩
            · rw [hN.2.2] at c_80
              have hltu : u < nr := by
                rcases Nat.lt_or_ge u nr with q | q
                · exact q
                · exact absurd (nI_le q (by omega)) c_80
              have hlt8u : u < 8 := Nat.lt_of_lt_of_le hltu (Nat.le_trans hL.2.2 (by decide))
              refine lv_iload hx hb dX7_manyNow_83 (lv_at hl 1 rfl) ?_
              refine lv_aload_n hx hb dX7_manyNow_85 rfl (lv_at hl 5 rfl) ?_
              refine k_get (ci := 7) (C := RX7) (T := TX7) (N := 20) (v := .ref (md 4)) hx hb hown hG rfl kin_X7 hw.o 6 (by decide) wF_X7_20 rfl dX7_manyNow_86 ?_
              refine lv_iload hx hb dX7_manyNow_89 (lv_at hl 0 rfl) ?_
              refine k_ald2 (v := (md (40 + u))) hx hb hG 5 rfl hw.a4 (vp_in_nI (n := u) (Nat.lt_of_lt_of_le hltu hL.2.2) (by decide)) (mo_rc (Nat.lt_of_lt_of_le hltu hL.2.2)) dX7_manyNow_91 ?_
              refine lv_bipush (v := 18) hx hb dX7_manyNow_92 (by decide) ?_
              refine k_iald (v := ((N (40 + u)) 18)) hx hb hG (hw.rc (Nat.lt_of_lt_of_le hltu hL.2.2)) (show vp_in (nI 18) 22 from vp_in_nI (by decide) (by decide)) (congrArg (N (40 + u)) (clI 18 (by decide))) dX7_manyNow_94 ?_
              refine lv_iadd hx hb dX7_manyNow_95 ?_
              refine lv_istore (lv' := [(5, .int (xd + ((N (40 + u)) 18))), (6, .int (nI u)), (4, .int xc), (3, .int xb), (2, .int xa), (0, .ref (md 0)), (1, .int w)]) hx hb dX7_manyNow_96 hl (by decide) rfl (fun ls hl => ?_)
              have hml : c.maxLocals = ls.size := hml9.trans hl.1.symm
              refine lv_iinc (v := (nI (u + 1))) (lv' := [(6, .int (nI (u + 1))), (5, .int (xd + ((N (40 + u)) 18))), (4, .int xc), (3, .int xb), (2, .int xa), (0, .ref (md 0)), (1, .int w)]) hx hb dX7_manyNow_98 hl (k := 1) rfl ((nI_succ u).symm) (by decide) rfl (fun ls hl => ?_)
              have hml : c.maxLocals = ls.size := hml9.trans hl.1.symm
              refine lv_goto (tgt := 74) hx hb dX7_manyNow_101 (by decide) ?_
              exact ih9 (u + 1) (xd + ((N (40 + u)) 18)) (by omega) hltu (by rw [eu, mSumD_s]) ls (lv_sub hl [0, 1, 2, 3, 4, 5, 6] rfl)
        exact lp74_2 (nr + 1) 0 0 (Nat.le_refl _) (Nat.zero_le _) (by rw [mSumD_0]) ls (lv_sub hl [0, 1, 2, 3, 4, 5, 6] rfl)
      · rw [hN.1] at c_19
        have hltj : j < ns := by
          rcases Nat.lt_or_ge j ns with q | q
          · exact q
          · exact absurd (nI_le q (by omega)) c_19
        have hlt8j : j < 8 := Nat.lt_of_lt_of_le hltj hL.1
        refine lv_iload_n hx hb dX7_manyNow_22 rfl (lv_at hl 4 rfl) ?_
        refine lv_aload_n hx hb dX7_manyNow_23 rfl (lv_at hl 5 rfl) ?_
        refine k_get (ci := 7) (C := RX7) (T := TX7) (N := 20) (v := .ref (md 1)) hx hb hown hG rfl kin_X7 hw.o 3 (by decide) wF_X7_11 rfl dX7_manyNow_24 ?_
        refine lv_iload hx hb dX7_manyNow_27 (lv_at hl 0 rfl) ?_
        refine k_ald2 (v := (md (10 + j))) hx hb hG 5 rfl hw.a1 (vp_in_nI (n := j) hlt8j (by decide)) (mo_st hlt8j) dX7_manyNow_29 ?_
        refine lv_iconst (v := 5) hx hb dX7_manyNow_30 (by decide) ?_
        refine k_iald (v := ((N (10 + j)) 5)) hx hb hG (hw.st hlt8j) (show vp_in (nI 5) 6 from vp_in_nI (by decide) (by decide)) (congrArg (N (10 + j)) (clI 5 (by decide))) dX7_manyNow_31 ?_
        refine lv_iadd hx hb dX7_manyNow_32 ?_
        refine lv_istore_n (lv' := [(2, .int (xa + ((N (10 + j)) 5))), (6, .int (nI j)), (5, .int 0), (4, .int xc), (3, .int xb), (0, .ref (md 0)), (1, .int w)]) hx hb dX7_manyNow_33 rfl hl (by decide) rfl (fun ls hl => ?_)
        have hml : c.maxLocals = ls.size := hml9.trans hl.1.symm
        refine lv_iload_n hx hb dX7_manyNow_34 rfl (lv_at hl 4 rfl) ?_
        refine lv_aload_n hx hb dX7_manyNow_35 rfl (lv_at hl 5 rfl) ?_
        refine lv_iload hx hb dX7_manyNow_36 (lv_at hl 1 rfl) ?_
        refine kc_i (kr_V (As := [.int (nI j)]) (rest := [.int xb]) hx hb hml hown hG (c_X7_holds l D cy md N co su j hlt8j) cf_X7_holds wM_X7_164 hw.o rfl hw ⟨rfl, rfl, by decide, by decide⟩ rfl rfl (Nat.le_of_ble_eq_true rfl) ⟨Nat.le_of_ble_eq_true rfl, Nat.le_of_ble_eq_true rfl⟩ dX7_manyNow_38) ?_
        refine lv_if_eq (tgt := 48) hx hb dX7_manyNow_41 (by decide) (fun c_41 => ?_) (fun c_41 => ?_)
        · refine lv_iconst (v := 0) hx hb dX7_manyNow_48 (by decide) ?_
          refine lv_iadd hx hb dX7_manyNow_49 ?_
          refine lv_istore_n (lv' := [(3, .int (xb + 0)), (2, .int (xa + ((N (10 + j)) 5))), (6, .int (nI j)), (5, .int 0), (4, .int xc), (0, .ref (md 0)), (1, .int w)]) hx hb dX7_manyNow_50 rfl hl (by decide) rfl (fun ls hl => ?_)
          have hml : c.maxLocals = ls.size := hml9.trans hl.1.symm
          refine lv_iload hx hb dX7_manyNow_51 (lv_at hl 4 rfl) ?_
          refine lv_aload_n hx hb dX7_manyNow_53 rfl (lv_at hl 5 rfl) ?_
          refine k_get (ci := 7) (C := RX7) (T := TX7) (N := 20) (v := .ref (md 2)) hx hb hown hG rfl kin_X7 hw.o 4 (by decide) wF_X7_14 rfl dX7_manyNow_54 ?_
          refine lv_iload hx hb dX7_manyNow_57 (lv_at hl 2 rfl) ?_
          refine k_ald2 (v := (md (20 + j))) hx hb hG 5 rfl hw.a2 (vp_in_nI (n := j) hlt8j (by decide)) (mo_ms hlt8j) dX7_manyNow_59 ?_
          refine lv_iconst (v := 0) hx hb dX7_manyNow_60 (by decide) ?_
          refine k_iald (v := ((N (20 + j)) 0)) hx hb hG (hw.ms hlt8j) (show vp_in (nI 0) 5 from vp_in_nI (by decide) (by decide)) (congrArg (N (20 + j)) (clI 0 (by decide))) dX7_manyNow_61 ?_
          refine lv_iadd hx hb dX7_manyNow_62 ?_
          refine lv_istore (lv' := [(4, .int (xc + ((N (20 + j)) 0))), (3, .int (xb + 0)), (2, .int (xa + ((N (10 + j)) 5))), (6, .int (nI j)), (5, .int 0), (0, .ref (md 0)), (1, .int w)]) hx hb dX7_manyNow_63 hl (by decide) rfl (fun ls hl => ?_)
          have hml : c.maxLocals = ls.size := hml9.trans hl.1.symm
          refine lv_iinc (v := (nI (j + 1))) (lv' := [(6, .int (nI (j + 1))), (4, .int (xc + ((N (20 + j)) 0))), (3, .int (xb + 0)), (2, .int (xa + ((N (10 + j)) 5))), (5, .int 0), (0, .ref (md 0)), (1, .int w)]) hx hb dX7_manyNow_65 hl (k := 3) rfl ((nI_succ j).symm) (by decide) rfl (fun ls hl => ?_)
          have hml : c.maxLocals = ls.size := hml9.trans hl.1.symm
          refine lv_goto (tgt := 13) hx hb dX7_manyNow_68 (by decide) ?_
          exact ih9 (j + 1) (xa + ((N (10 + j)) 5)) (xb + 0) (xc + ((N (20 + j)) 0)) (by omega) hltj (by rw [ea, mSumA_s]) (by rw [eb, mSumB_s, if_pos c_41]) (by rw [ec, mSumC_s]) ls (lv_sub hl [0, 4, 1, 2, 3, 5, 6] rfl)
        · refine lv_iconst (v := 1) hx hb dX7_manyNow_44 (by decide) ?_
          refine lv_goto (tgt := 49) hx hb dX7_manyNow_45 (by decide) ?_
          refine lv_iadd hx hb dX7_manyNow_49 ?_
          refine lv_istore_n (lv' := [(3, .int (xb + 1)), (2, .int (xa + ((N (10 + j)) 5))), (6, .int (nI j)), (5, .int 0), (4, .int xc), (0, .ref (md 0)), (1, .int w)]) hx hb dX7_manyNow_50 rfl hl (by decide) rfl (fun ls hl => ?_)
          have hml : c.maxLocals = ls.size := hml9.trans hl.1.symm
          refine lv_iload hx hb dX7_manyNow_51 (lv_at hl 4 rfl) ?_
          refine lv_aload_n hx hb dX7_manyNow_53 rfl (lv_at hl 5 rfl) ?_
          refine k_get (ci := 7) (C := RX7) (T := TX7) (N := 20) (v := .ref (md 2)) hx hb hown hG rfl kin_X7 hw.o 4 (by decide) wF_X7_14 rfl dX7_manyNow_54 ?_
          refine lv_iload hx hb dX7_manyNow_57 (lv_at hl 2 rfl) ?_
          refine k_ald2 (v := (md (20 + j))) hx hb hG 5 rfl hw.a2 (vp_in_nI (n := j) hlt8j (by decide)) (mo_ms hlt8j) dX7_manyNow_59 ?_
          refine lv_iconst (v := 0) hx hb dX7_manyNow_60 (by decide) ?_
          refine k_iald (v := ((N (20 + j)) 0)) hx hb hG (hw.ms hlt8j) (show vp_in (nI 0) 5 from vp_in_nI (by decide) (by decide)) (congrArg (N (20 + j)) (clI 0 (by decide))) dX7_manyNow_61 ?_
          refine lv_iadd hx hb dX7_manyNow_62 ?_
          refine lv_istore (lv' := [(4, .int (xc + ((N (20 + j)) 0))), (3, .int (xb + 1)), (2, .int (xa + ((N (10 + j)) 5))), (6, .int (nI j)), (5, .int 0), (0, .ref (md 0)), (1, .int w)]) hx hb dX7_manyNow_63 hl (by decide) rfl (fun ls hl => ?_)
          have hml : c.maxLocals = ls.size := hml9.trans hl.1.symm
          refine lv_iinc (v := (nI (j + 1))) (lv' := [(6, .int (nI (j + 1))), (4, .int (xc + ((N (20 + j)) 0))), (3, .int (xb + 1)), (2, .int (xa + ((N (10 + j)) 5))), (5, .int 0), (0, .ref (md 0)), (1, .int w)]) hx hb dX7_manyNow_65 hl (k := 3) rfl ((nI_succ j).symm) (by decide) rfl (fun ls hl => ?_)
          have hml : c.maxLocals = ls.size := hml9.trans hl.1.symm
          refine lv_goto (tgt := 13) hx hb dX7_manyNow_68 (by decide) ?_
          exact ih9 (j + 1) (xa + ((N (10 + j)) 5)) (xb + 1) (xc + ((N (20 + j)) 0)) (by omega) hltj (by rw [ea, mSumA_s]) (by rw [eb, mSumB_s, if_neg c_41]) (by rw [ec, mSumC_s]) ls (lv_sub hl [0, 4, 1, 2, 3, 5, 6] rfl)
  exact lp13_1 (ns + 1) 0 0 0 0 (Nat.le_refl _) (Nat.zero_le _) (by rw [mSumA_0]) (by rw [mSumB_0]) (by rw [mSumC_0]) ls (lv_sub hl [0, 1, 2, 3, 4, 5, 6] rfl)
set_option maxHeartbeats 4000000 in
set_option maxRecDepth 100000 in
theorem c_X7_ofReceiver (l : Launch) (D : va_G) (cy : Nat → ClassId) (md : Nat → Nat) (N : Nat → Nat → Int32) (co su : Int64) (hA : MI md) (ns nt nr : Nat) (hL : LB ns nt nr) (hN : MN N ns nt nr) (x w : Int32) (w9 : Nat) : Met l yX7_ofReceiver [.code yX7_ofReceiver cX7_ofReceiver 3 (some .int)] ({ frames := 6, cells := 1, slots := 14, locals := 140 } : Room) (PC D cy [.ref (md 0), .int x, .int w] (fun H => MW D cy md N co su H ∧ H.size = w9)) (UQi (fun q => MA md q ∨ w9 ≤ q) (mOut D cy md N co su (kRng nr x w 0 13) (fun r H => ∃ i, i < nr ∧ x = nI i ∧ r = mTold (thr N 0) ns i w.toNatClampNeg ∧ MW D cy md (thr N 0) co su H))) 1 14 (fun q => MA md q ∨ w9 ≤ q) := by
  refine k_body (by decide +kernel) (Nat.le_of_ble_eq_true rfl) ?_
  intro p e s m below meth c ls hx hb hml hown hr hlk hmn hl hG hI
  have hml9 : c.maxLocals = 3 := hml.trans hl.1
  have hl : lv_has ls 3 [(0, .ref (md 0)), (1, .int x), (2, .int w)] := hl
  obtain ⟨hw, hsz⟩ := hI
  have hS : va_S (fun q => MA md q ∨ w9 ≤ q) s.heap s.heap [] := va_S.rf
  have hlt9 : ∀ q, MA md q → q < w9 := fun q h => by obtain ⟨k, hk, rfl⟩ := h; exact hsz ▸ hw.lt hk
  have hL1 := hL.1
  have hL2 := hL.2.1
  have hL3 := hL.2.2
  refine lv_aload_n hx hb dX7_ofReceiver_0 rfl (lv_at hl 0 rfl) ?_
  refine lv_iconst (v := 0) hx hb dX7_ofReceiver_1 (by decide) ?_
  refine k_put (ci := 7) (C := RX7) (T := TX7) (N := 20) (v := .int 0) hx hb hown hG rfl kin_X7 tyX7 tyX7_ok nmX7 hw.o hS (Or.inl MA.o) 0 (by decide) wF_X7_41 rfl rfl rfl (Nat.le_of_ble_eq_true rfl) dX7_ofReceiver_2 (fun H1 locs hP1 z1 oq1 hS => ?_)
  have hw := hw.setO (r := (upd (N 0) 0 0)) (c' := co) (s' := su) hA hP1 oq1
  have hw : MW D cy md (thr N 0) co su H1 := hw
  have hsz := z1.trans hsz
  refine lv_aload_n hx hb dX7_ofReceiver_5 rfl (lv_at hl 0 rfl) ?_
  refine lv_iload_n hx hb dX7_ofReceiver_6 rfl (lv_at hl 1 rfl) ?_
  refine kc_i (kr_V (As := [.int x]) (rest := []) hx hb hml hown hG (c_X7_isReceiver l D cy md (thr N 0) co su x) cf_X7_isReceiver wM_X7_115 hw.o rfl hw ⟨rfl, rfl, by decide, by decide⟩ rfl rfl (Nat.le_of_ble_eq_true rfl) ⟨Nat.le_of_ble_eq_true rfl, Nat.le_of_ble_eq_true rfl⟩ dX7_ofReceiver_7) ?_
  refine lv_if_ne (tgt := 19) hx hb dX7_ofReceiver_10 (by decide) (fun c_10 => ?_) (fun c_10 => ?_)
  · have c_10 : bI (pOut x 0 (nI nr - 1)) = 0 := by have h := mIs_t c_10; rw [show thr N 0 0 10 = nI nr from hN.2.2] at h; exact h
    obtain ⟨i, hi, ei⟩ := pOut_f (Nat.le_trans hL.2.2 (by decide)) c_10
    subst ei
    have hbi := Nat.lt_of_lt_of_le hi hL.2.2
    refine lv_iload_n hx hb dX7_ofReceiver_19 rfl (lv_at hl 2 rfl) ?_
    refine lv_iconst (v := 0) hx hb dX7_ofReceiver_20 (by decide) ?_
    refine lv_bipush (v := 13) hx hb dX7_ofReceiver_21 (by decide) ?_
    refine kc_i (kr_S (As := [.int w, .int 0, .int 13]) (rest := []) hx hb hml hown hG (c_X7_is l D cy w 0 13) cf_X7_is wM_X7_86 trivial ⟨rfl, rfl, by decide, by decide⟩ rfl rfl (Nat.le_of_ble_eq_true rfl) ⟨Nat.le_of_ble_eq_true rfl, Nat.le_of_ble_eq_true rfl⟩ dX7_ofReceiver_23) ?_
    refine lv_if_eq (tgt := 38) hx hb dX7_ofReceiver_26 (by decide) (fun c_26 => ?_) (fun c_26 => ?_)
    · have c_26 := mIs_f c_26
      refine lv_aload_n hx hb dX7_ofReceiver_38 rfl (lv_at hl 0 rfl) ?_
      refine lv_iconst (v := 2) hx hb dX7_ofReceiver_39 (by decide) ?_
      refine kc_ui (kr_V (As := [.int 2]) (rest := []) hx hb hml hown hG (c_X7_refuse l D cy md (thr N 0) co su hA 2) cf_X7_refuse wM_X7_95 hw.o rfl hw ⟨rfl, rfl, by decide, by decide⟩ rfl rfl (Nat.le_of_ble_eq_true rfl) ⟨Nat.le_of_ble_eq_true rfl, Nat.le_of_ble_eq_true rfl⟩ dX7_ofReceiver_40) hS (fun q h => Or.inl h) (fun r_40 H1 locs hp1 z1 oq1 hS => ?_)
      obtain ⟨e9, hw⟩ := hp1
      subst e9
      rw [thr_thr] at hw
      exact W.widen (k := 1) (n := 14) (Nat.le_of_ble_eq_true rfl) (Nat.le_of_ble_eq_true rfl) (ke_ui hx hb hr hlk hS dX7_ofReceiver_43 (Or.inr (Or.inl ⟨by unfold kRng; rw [if_pos c_10, if_neg c_26], hw⟩)))
    · have c_26 := mIs_t c_26
      refine lv_aload_n hx hb dX7_ofReceiver_29 rfl (lv_at hl 0 rfl) ?_
      refine lv_iload_n hx hb dX7_ofReceiver_30 rfl (lv_at hl 1 rfl) ?_
      refine lv_iload_n hx hb dX7_ofReceiver_31 rfl (lv_at hl 2 rfl) ?_
      refine kc_ui (kr_V (As := [.int (nI i), .int w]) (rest := []) hx hb hml hown hG (c_X7_ofReceiverNow l D cy md (thr N 0) co su hA ns nt nr hL (hN.thr) i hbi w (in_le (n := 14) (m := 13) (by decide) (by decide) (out_0 c_26).1 (out_0 c_26).2) w9) cf_X7_ofReceiverNow wM_X7_214 hw.o rfl ⟨hw, hsz⟩ ⟨rfl, rfl, by decide, by decide⟩ rfl rfl (Nat.le_of_ble_eq_true rfl) ⟨Nat.le_of_ble_eq_true rfl, Nat.le_of_ble_eq_true rfl⟩ dX7_ofReceiver_32) hS (fun q h => h) (fun r_32 H1 locs hp1 z1 oq1 hS => ?_)
      obtain ⟨e9, hw⟩ := hp1
      subst e9
      refine lv_goto (tgt := 43) hx hb dX7_ofReceiver_35 (by decide) ?_
      exact W.widen (k := 1) (n := 14) (Nat.le_of_ble_eq_true rfl) (Nat.le_of_ble_eq_true rfl) (ke_ui hx hb hr hlk hS dX7_ofReceiver_43 (Or.inr (Or.inr ⟨by unfold kRng; rw [if_pos c_10, if_pos c_26], i, hi, rfl, rfl, hw⟩)))
  · have c_10 : ¬ bI (pOut x 0 (nI nr - 1)) = 0 := by have h := mIs_f c_10; rw [show thr N 0 0 10 = nI nr from hN.2.2] at h; exact h
    refine lv_aload_n hx hb dX7_ofReceiver_13 rfl (lv_at hl 0 rfl) ?_
    refine lv_iconst (v := 1) hx hb dX7_ofReceiver_14 (by decide) ?_
    refine kc_ui (kr_V (As := [.int 1]) (rest := []) hx hb hml hown hG (c_X7_refuse l D cy md (thr N 0) co su hA 1) cf_X7_refuse wM_X7_95 hw.o rfl hw ⟨rfl, rfl, by decide, by decide⟩ rfl rfl (Nat.le_of_ble_eq_true rfl) ⟨Nat.le_of_ble_eq_true rfl, Nat.le_of_ble_eq_true rfl⟩ dX7_ofReceiver_15) hS (fun q h => Or.inl h) (fun r_15 H1 locs hp1 z1 oq1 hS => ?_)
    obtain ⟨e9, hw⟩ := hp1
    subst e9
    rw [thr_thr] at hw
    exact W.widen (k := 1) (n := 14) (Nat.le_of_ble_eq_true rfl) (Nat.le_of_ble_eq_true rfl) (ke_ui hx hb hr hlk hS dX7_ofReceiver_18 (Or.inl ⟨by unfold kRng; rw [if_neg c_10], hw⟩))
set_option maxHeartbeats 4000000 in
set_option maxRecDepth 100000 in
theorem c_X7_many (l : Launch) (D : va_G) (cy : Nat → ClassId) (md : Nat → Nat) (N : Nat → Nat → Int32) (co su : Int64) (hA : MI md) (ns nt nr : Nat) (hL : LB ns nt nr) (hN : MN N ns nt nr) (w : Int32) (w9 : Nat) : Met l yX7_many [.code yX7_many cX7_many 2 (some .int)] ({ frames := 3, cells := 1, slots := 9, locals := 68 } : Room) (PC D cy [.ref (md 0), .int w] (fun H => MW D cy md N co su H ∧ H.size = w9)) (UQi (fun q => MA md q ∨ w9 ≤ q) (mOut D cy md N co su (kIn w 0 8) (fun r H => r = mMany (thr N 0) ns nr w.toNatClampNeg ∧ MW D cy md (thr N 0) co su H))) 1 9 (fun q => MA md q ∨ w9 ≤ q) := by
  refine k_body (by decide +kernel) (Nat.le_of_ble_eq_true rfl) ?_
  intro p e s m below meth c ls hx hb hml hown hr hlk hmn hl hG hI
  have hml9 : c.maxLocals = 2 := hml.trans hl.1
  have hl : lv_has ls 2 [(0, .ref (md 0)), (1, .int w)] := hl
  obtain ⟨hw, hsz⟩ := hI
  have hS : va_S (fun q => MA md q ∨ w9 ≤ q) s.heap s.heap [] := va_S.rf
  have hlt9 : ∀ q, MA md q → q < w9 := fun q h => by obtain ⟨k, hk, rfl⟩ := h; exact hsz ▸ hw.lt hk
  have hL1 := hL.1
  have hL2 := hL.2.1
  have hL3 := hL.2.2
  refine lv_aload_n hx hb dX7_many_0 rfl (lv_at hl 0 rfl) ?_
  refine lv_iconst (v := 0) hx hb dX7_many_1 (by decide) ?_
  refine k_put (ci := 7) (C := RX7) (T := TX7) (N := 20) (v := .int 0) hx hb hown hG rfl kin_X7 tyX7 tyX7_ok nmX7 hw.o hS (Or.inl MA.o) 0 (by decide) wF_X7_41 rfl rfl rfl (Nat.le_of_ble_eq_true rfl) dX7_many_2 (fun H1 locs hP1 z1 oq1 hS => ?_)
  have hw := hw.setO (r := (upd (N 0) 0 0)) (c' := co) (s' := su) hA hP1 oq1
  have hw : MW D cy md (thr N 0) co su H1 := hw
  have hsz := z1.trans hsz
  refine lv_iload_n hx hb dX7_many_5 rfl (lv_at hl 1 rfl) ?_
  refine lv_iconst (v := 0) hx hb dX7_many_6 (by decide) ?_
  refine lv_bipush (v := 8) hx hb dX7_many_7 (by decide) ?_
  refine kc_i (kr_S (As := [.int w, .int 0, .int 8]) (rest := []) hx hb hml hown hG (c_X7_is l D cy w 0 8) cf_X7_is wM_X7_86 trivial ⟨rfl, rfl, by decide, by decide⟩ rfl rfl (Nat.le_of_ble_eq_true rfl) ⟨Nat.le_of_ble_eq_true rfl, Nat.le_of_ble_eq_true rfl⟩ dX7_many_9) ?_
  refine lv_if_eq (tgt := 23) hx hb dX7_many_12 (by decide) (fun c_12 => ?_) (fun c_12 => ?_)
  · have c_12 := mIs_f c_12
    refine lv_aload_n hx hb dX7_many_23 rfl (lv_at hl 0 rfl) ?_
    refine lv_iconst (v := 1) hx hb dX7_many_24 (by decide) ?_
    refine kc_ui (kr_V (As := [.int 1]) (rest := []) hx hb hml hown hG (c_X7_refuse l D cy md (thr N 0) co su hA 1) cf_X7_refuse wM_X7_95 hw.o rfl hw ⟨rfl, rfl, by decide, by decide⟩ rfl rfl (Nat.le_of_ble_eq_true rfl) ⟨Nat.le_of_ble_eq_true rfl, Nat.le_of_ble_eq_true rfl⟩ dX7_many_25) hS (fun q h => Or.inl h) (fun r_25 H1 locs hp1 z1 oq1 hS => ?_)
    obtain ⟨e9, hw⟩ := hp1
    subst e9
    rw [thr_thr] at hw
    exact W.widen (k := 1) (n := 9) (Nat.le_of_ble_eq_true rfl) (Nat.le_of_ble_eq_true rfl) (ke_ui hx hb hr hlk hS dX7_many_28 (Or.inl ⟨by unfold kIn; rw [if_neg c_12], hw⟩))
  · have c_12 := mIs_t c_12
    refine lv_aload_n hx hb dX7_many_15 rfl (lv_at hl 0 rfl) ?_
    refine lv_iload_n hx hb dX7_many_16 rfl (lv_at hl 1 rfl) ?_
    refine kc_ui (kr_V (As := [.int w]) (rest := []) hx hb hml hown hG (c_X7_manyNow l D cy md (thr N 0) co su hA ns nt nr hL (hN.thr) w (in_le (n := 9) (m := 8) (by decide) (by decide) (out_0 c_12).1 (out_0 c_12).2) w9) cf_X7_manyNow wM_X7_217 hw.o rfl ⟨hw, hsz⟩ ⟨rfl, rfl, by decide, by decide⟩ rfl rfl (Nat.le_of_ble_eq_true rfl) ⟨Nat.le_of_ble_eq_true rfl, Nat.le_of_ble_eq_true rfl⟩ dX7_many_17) hS (fun q h => h) (fun r_17 H1 locs hp1 z1 oq1 hS => ?_)
    obtain ⟨e9, hw⟩ := hp1
    subst e9
    refine lv_goto (tgt := 28) hx hb dX7_many_20 (by decide) ?_
    exact W.widen (k := 1) (n := 9) (Nat.le_of_ble_eq_true rfl) (Nat.le_of_ble_eq_true rfl) (ke_ui hx hb hr hlk hS dX7_many_28 (Or.inr (Or.inr ⟨by unfold kIn; rw [if_pos c_12], rfl, hw⟩)))
