set_option maxHeartbeats 4000000 in
set_option maxRecDepth 100000 in
theorem c_X1_init (l : Launch) (D : va_G) (cy : Nat → ClassId) (a : Nat) (w9 : Nat) : Met l yX1_init [.code yX1_init cX1_init 1 none] ({ frames := 1, cells := 0, slots := 0, locals := 20 } : Room) (PC D cy [.ref a] (fun H => (True) ∧ H.size = w9)) (UQv (fun _ => False) (fun H => (True) ∧ H.size = w9)) 0 0 (fun _ => False) := by
  refine k_body (by decide +kernel) (Nat.le_of_ble_eq_true rfl) ?_
  intro p e s m below meth c ls hx hb hml hown hr hlk hmn hl hG hI
  have hml9 : c.maxLocals = 1 := hml.trans hl.1
  have hl : lv_has ls 1 [(0, .ref a)] := hl
  have hS : va_S (fun _ => False) s.heap s.heap [] := va_S.rf
  obtain ⟨ho, hsz⟩ := hI
  have hin : meth.name = "<init>" := hmn
  refine lv_aload_n hx hb dX1_init_0 rfl (lv_at hl 0 rfl) ?_
  refine k_oinit hx hb hml hown hG wM_X1_3 wOI dX1_init_1 (Nat.le_of_ble_eq_true rfl) (Nat.le_of_ble_eq_true rfl) ?_
  exact ke_uv hx hb hr hlk hS dX1_init_4 ⟨trivial, hsz⟩
set_option maxHeartbeats 4000000 in
set_option maxRecDepth 100000 in
theorem c_X3_init (l : Launch) (D : va_G) (cy : Nat → ClassId) (a : Nat) (ra ph sp of dr : Int32) (w9 : Nat) : Met l yX3_init [.code yX3_init cX3_init 6 none] ({ frames := 1, cells := 0, slots := 0, locals := 20 } : Room) (PC D cy [.ref a, .int ra, .int ph, .int sp, .int of, .int dr] (fun H => (va_P D vwCl [(a, .inr (3, stF (fun _ => 0)))] H) ∧ H.size = w9)) (UQv (fun q => q = a) (fun H => (va_P D vwCl [(a, .inr (3, stF (rNew ra ph sp of dr)))] H) ∧ H.size = w9)) 0 0 (fun q => q = a) := by
  refine k_body (by decide +kernel) (Nat.le_of_ble_eq_true rfl) ?_
  intro p e s m below meth c ls hx hb hml hown hr hlk hmn hl hG hI
  have hml9 : c.maxLocals = 6 := hml.trans hl.1
  have hl : lv_has ls 6 [(0, .ref a), (1, .int ra), (2, .int ph), (3, .int sp), (4, .int of), (5, .int dr)] := hl
  have hS : va_S (fun q => q = a) s.heap s.heap [] := va_S.rf
  obtain ⟨ho, hsz⟩ := hI
  have hin : meth.name = "<init>" := hmn
  refine lv_aload_n hx hb dX3_init_0 rfl (lv_at hl 0 rfl) ?_
  refine k_oinit hx hb hml hown hG wM_X3_3 wOI dX3_init_1 (Nat.le_of_ble_eq_true rfl) (Nat.le_of_ble_eq_true rfl) ?_
  refine lv_aload_n hx hb dX3_init_4 rfl (lv_at hl 0 rfl) ?_
  refine lv_iload_n hx hb dX3_init_5 rfl (lv_at hl 1 rfl) ?_
  refine k_putF (ci := 3) (C := RX3) (T := TX3) (N := 11) (v := .int ra) hx hb hown hG rfl kin_X3 tyX3 tyX3_ok nmX3 ho hS rfl 0 (by decide) wF_X3_9 rfl hin rfl rfl rfl (Nat.le_of_ble_eq_true rfl) dX3_init_6 (fun H1 locs hP1 z1 oq1 hS => ?_)
  have ho : va_P D vwCl [(a, .inr (3, [.int ra, .int 0, .int 0, .int 0, .int 0, .int 0, .int 0, .int 0, .int 0, .int 0, .int 0]))] H1 := hP1
  have hsz := z1.trans hsz
  refine lv_aload_n hx hb dX3_init_9 rfl (lv_at hl 0 rfl) ?_
  refine lv_iload_n hx hb dX3_init_10 rfl (lv_at hl 2 rfl) ?_
  refine k_put (ci := 3) (C := RX3) (T := TX3) (N := 11) (v := .int ph) hx hb hown hG rfl kin_X3 tyX3 tyX3_ok nmX3 ho hS rfl 2 (by decide) wF_X3_15 rfl rfl rfl (Nat.le_of_ble_eq_true rfl) dX3_init_11 (fun H1 locs hP1 z1 oq1 hS => ?_)
  have ho : va_P D vwCl [(a, .inr (3, [.int ra, .int 0, .int ph, .int 0, .int 0, .int 0, .int 0, .int 0, .int 0, .int 0, .int 0]))] H1 := hP1
  have hsz := z1.trans hsz
  refine lv_aload_n hx hb dX3_init_14 rfl (lv_at hl 0 rfl) ?_
  refine lv_iload_n hx hb dX3_init_15 rfl (lv_at hl 3 rfl) ?_
  refine k_putF (ci := 3) (C := RX3) (T := TX3) (N := 11) (v := .int sp) hx hb hown hG rfl kin_X3 tyX3 tyX3_ok nmX3 ho hS rfl 1 (by decide) wF_X3_18 rfl hin rfl rfl rfl (Nat.le_of_ble_eq_true rfl) dX3_init_16 (fun H1 locs hP1 z1 oq1 hS => ?_)
  have ho : va_P D vwCl [(a, .inr (3, [.int ra, .int sp, .int ph, .int 0, .int 0, .int 0, .int 0, .int 0, .int 0, .int 0, .int 0]))] H1 := hP1
  have hsz := z1.trans hsz
  refine lv_aload_n hx hb dX3_init_19 rfl (lv_at hl 0 rfl) ?_
  refine lv_iload hx hb dX3_init_20 (lv_at hl 4 rfl) ?_
  refine k_put (ci := 3) (C := RX3) (T := TX3) (N := 11) (v := .int of) hx hb hown hG rfl kin_X3 tyX3 tyX3_ok nmX3 ho hS rfl 3 (by decide) wF_X3_21 rfl rfl rfl (Nat.le_of_ble_eq_true rfl) dX3_init_22 (fun H1 locs hP1 z1 oq1 hS => ?_)
  have ho : va_P D vwCl [(a, .inr (3, [.int ra, .int sp, .int ph, .int of, .int 0, .int 0, .int 0, .int 0, .int 0, .int 0, .int 0]))] H1 := hP1
  have hsz := z1.trans hsz
  refine lv_aload_n hx hb dX3_init_25 rfl (lv_at hl 0 rfl) ?_
  refine lv_iload hx hb dX3_init_26 (lv_at hl 5 rfl) ?_
  refine k_put (ci := 3) (C := RX3) (T := TX3) (N := 11) (v := .int dr) hx hb hown hG rfl kin_X3 tyX3 tyX3_ok nmX3 ho hS rfl 4 (by decide) wF_X3_24 rfl rfl rfl (Nat.le_of_ble_eq_true rfl) dX3_init_28 (fun H1 locs hP1 z1 oq1 hS => ?_)
  have ho : va_P D vwCl [(a, .inr (3, [.int ra, .int sp, .int ph, .int of, .int dr, .int 0, .int 0, .int 0, .int 0, .int 0, .int 0]))] H1 := hP1
  have hsz := z1.trans hsz
  refine lv_aload_n hx hb dX3_init_31 rfl (lv_at hl 0 rfl) ?_
  refine lv_iconst (v := 1) hx hb dX3_init_32 (by decide) ?_
  refine k_put (ci := 3) (C := RX3) (T := TX3) (N := 11) (v := .int 1) hx hb hown hG rfl kin_X3 tyX3 tyX3_ok nmX3 ho hS rfl 5 (by decide) wF_X3_27 rfl (by first | exact bI_nar _ | decide) (by first | exact bI_fit _ | decide) (Nat.le_of_ble_eq_true rfl) dX3_init_33 (fun H1 locs hP1 z1 oq1 hS => ?_)
  have ho : va_P D vwCl [(a, .inr (3, [.int ra, .int sp, .int ph, .int of, .int dr, .int 1, .int 0, .int 0, .int 0, .int 0, .int 0]))] H1 := hP1
  have hsz := z1.trans hsz
  refine lv_aload_n hx hb dX3_init_36 rfl (lv_at hl 0 rfl) ?_
  refine lv_iconst (v := (-1)) hx hb dX3_init_37 (by decide) ?_
  refine k_put (ci := 3) (C := RX3) (T := TX3) (N := 11) (v := .int (-1)) hx hb hown hG rfl kin_X3 tyX3 tyX3_ok nmX3 ho hS rfl 7 (by decide) wF_X3_31 rfl rfl rfl (Nat.le_of_ble_eq_true rfl) dX3_init_38 (fun H1 locs hP1 z1 oq1 hS => ?_)
  have ho : va_P D vwCl [(a, .inr (3, [.int ra, .int sp, .int ph, .int of, .int dr, .int 1, .int 0, .int (-1), .int 0, .int 0, .int 0]))] H1 := hP1
  have hsz := z1.trans hsz
  refine lv_aload_n hx hb dX3_init_41 rfl (lv_at hl 0 rfl) ?_
  refine lv_iconst (v := (-1)) hx hb dX3_init_42 (by decide) ?_
  refine k_put (ci := 3) (C := RX3) (T := TX3) (N := 11) (v := .int (-1)) hx hb hown hG rfl kin_X3 tyX3 tyX3_ok nmX3 ho hS rfl 8 (by decide) wF_X3_34 rfl rfl rfl (Nat.le_of_ble_eq_true rfl) dX3_init_43 (fun H1 locs hP1 z1 oq1 hS => ?_)
  have ho : va_P D vwCl [(a, .inr (3, [.int ra, .int sp, .int ph, .int of, .int dr, .int 1, .int 0, .int (-1), .int (-1), .int 0, .int 0]))] H1 := hP1
  have hsz := z1.trans hsz
  exact ke_uv hx hb hr hlk hS dX3_init_46 ⟨ho, hsz⟩
set_option maxHeartbeats 4000000 in
set_option maxRecDepth 100000 in
theorem c_X4_init (l : Launch) (D : va_G) (cy : Nat → ClassId) (a : Nat) (x d : Int32) (w9 : Nat) : Met l yX4_init [.code yX4_init cX4_init 3 none] ({ frames := 1, cells := 0, slots := 0, locals := 20 } : Room) (PC D cy [.ref a, .int x, .int d] (fun H => (va_P D vwCl [(a, .inr (4, snF (fun _ => 0)))] H) ∧ H.size = w9)) (UQv (fun q => q = a) (fun H => (va_P D vwCl [(a, .inr (4, snF (snNew x d)))] H) ∧ H.size = w9)) 0 0 (fun q => q = a) := by
  refine k_body (by decide +kernel) (Nat.le_of_ble_eq_true rfl) ?_
  intro p e s m below meth c ls hx hb hml hown hr hlk hmn hl hG hI
  have hml9 : c.maxLocals = 3 := hml.trans hl.1
  have hl : lv_has ls 3 [(0, .ref a), (1, .int x), (2, .int d)] := hl
  have hS : va_S (fun q => q = a) s.heap s.heap [] := va_S.rf
  obtain ⟨ho, hsz⟩ := hI
  have hin : meth.name = "<init>" := hmn
  refine lv_aload_n hx hb dX4_init_0 rfl (lv_at hl 0 rfl) ?_
  refine k_oinit hx hb hml hown hG wM_X4_1 wOI dX4_init_1 (Nat.le_of_ble_eq_true rfl) (Nat.le_of_ble_eq_true rfl) ?_
  refine lv_aload_n hx hb dX4_init_4 rfl (lv_at hl 0 rfl) ?_
  refine lv_iload_n hx hb dX4_init_5 rfl (lv_at hl 1 rfl) ?_
  refine k_putF (ci := 4) (C := RX4) (T := TX4) (N := 2) (v := .int x) hx hb hown hG rfl kin_X4 tyX4 tyX4_ok nmX4 ho hS rfl 0 (by decide) wF_X4_7 rfl hin rfl rfl rfl (Nat.le_of_ble_eq_true rfl) dX4_init_6 (fun H1 locs hP1 z1 oq1 hS => ?_)
  have ho : va_P D vwCl [(a, .inr (4, [.int x, .int 0]))] H1 := hP1
  have hsz := z1.trans hsz
  refine lv_aload_n hx hb dX4_init_9 rfl (lv_at hl 0 rfl) ?_
  refine lv_iload_n hx hb dX4_init_10 rfl (lv_at hl 2 rfl) ?_
  refine k_putF (ci := 4) (C := RX4) (T := TX4) (N := 2) (v := .int d) hx hb hown hG rfl kin_X4 tyX4 tyX4_ok nmX4 ho hS rfl 1 (by decide) wF_X4_13 rfl hin rfl rfl rfl (Nat.le_of_ble_eq_true rfl) dX4_init_11 (fun H1 locs hP1 z1 oq1 hS => ?_)
  have ho : va_P D vwCl [(a, .inr (4, [.int x, .int d]))] H1 := hP1
  have hsz := z1.trans hsz
  exact ke_uv hx hb hr hlk hS dX4_init_14 ⟨ho, hsz⟩
set_option maxHeartbeats 4000000 in
set_option maxRecDepth 100000 in
theorem c_X5_init (l : Launch) (D : va_G) (cy : Nat → ClassId) (a : Nat) (w9 : Nat) : Met l yX5_init [.code yX5_init cX5_init 1 none] ({ frames := 1, cells := 0, slots := 0, locals := 20 } : Room) (PC D cy [.ref a] (fun H => (va_P D vwCl [(a, .inr (5, trF (fun _ => 0)))] H) ∧ H.size = w9)) (UQv (fun q => q = a) (fun H => (va_P D vwCl [(a, .inr (5, trF tNew))] H) ∧ H.size = w9)) 0 0 (fun q => q = a) := by
  refine k_body (by decide +kernel) (Nat.le_of_ble_eq_true rfl) ?_
  intro p e s m below meth c ls hx hb hml hown hr hlk hmn hl hG hI
  have hml9 : c.maxLocals = 1 := hml.trans hl.1
  have hl : lv_has ls 1 [(0, .ref a)] := hl
  have hS : va_S (fun q => q = a) s.heap s.heap [] := va_S.rf
  obtain ⟨ho, hsz⟩ := hI
  have hin : meth.name = "<init>" := hmn
  refine lv_aload_n hx hb dX5_init_0 rfl (lv_at hl 0 rfl) ?_
  refine k_oinit hx hb hml hown hG wM_X5_3 wOI dX5_init_1 (Nat.le_of_ble_eq_true rfl) (Nat.le_of_ble_eq_true rfl) ?_
  refine lv_aload_n hx hb dX5_init_4 rfl (lv_at hl 0 rfl) ?_
  refine lv_iconst (v := (-1)) hx hb dX5_init_5 (by decide) ?_
  refine k_put (ci := 5) (C := RX5) (T := TX5) (N := 13) (v := .int (-1)) hx hb hown hG rfl kin_X5 tyX5 tyX5_ok nmX5 ho hS rfl 1 (by decide) wF_X5_9 rfl rfl rfl (Nat.le_of_ble_eq_true rfl) dX5_init_6 (fun H1 locs hP1 z1 oq1 hS => ?_)
  have ho : va_P D vwCl [(a, .inr (5, [.int 0, .int (-1), .int 0, .int 0, .int 0, .int 0, .int 0, .int 0, .int 0, .int 0, .int 0, .int 0, .int 0]))] H1 := hP1
  have hsz := z1.trans hsz
  refine lv_aload_n hx hb dX5_init_9 rfl (lv_at hl 0 rfl) ?_
  refine lv_bipush (v := 99) hx hb dX5_init_10 (by decide) ?_
  refine k_put (ci := 5) (C := RX5) (T := TX5) (N := 13) (v := .int 99) hx hb hown hG rfl kin_X5 tyX5 tyX5_ok nmX5 ho hS rfl 9 (by decide) wF_X5_15 rfl rfl rfl (Nat.le_of_ble_eq_true rfl) dX5_init_12 (fun H1 locs hP1 z1 oq1 hS => ?_)
  have ho : va_P D vwCl [(a, .inr (5, [.int 0, .int (-1), .int 0, .int 0, .int 0, .int 0, .int 0, .int 0, .int 0, .int 99, .int 0, .int 0, .int 0]))] H1 := hP1
  have hsz := z1.trans hsz
  refine lv_aload_n hx hb dX5_init_15 rfl (lv_at hl 0 rfl) ?_
  refine lv_iconst (v := (-1)) hx hb dX5_init_16 (by decide) ?_
  refine k_put (ci := 5) (C := RX5) (T := TX5) (N := 13) (v := .int (-1)) hx hb hown hG rfl kin_X5 tyX5 tyX5_ok nmX5 ho hS rfl 12 (by decide) wF_X5_18 rfl rfl rfl (Nat.le_of_ble_eq_true rfl) dX5_init_17 (fun H1 locs hP1 z1 oq1 hS => ?_)
  have ho : va_P D vwCl [(a, .inr (5, [.int 0, .int (-1), .int 0, .int 0, .int 0, .int 0, .int 0, .int 0, .int 0, .int 99, .int 0, .int 0, .int (-1)]))] H1 := hP1
  have hsz := z1.trans hsz
  exact ke_uv hx hb hr hlk hS dX5_init_20 ⟨ho, hsz⟩
set_option maxHeartbeats 4000000 in
set_option maxRecDepth 100000 in
theorem c_X2_init (l : Launch) (D : va_G) (cy : Nat → ClassId) (a : Nat) (w9 : Nat) : Met l yX2_init [.code yX2_init cX2_init 1 none] ({ frames := 1, cells := 5, slots := 40, locals := 20 } : Room) (PC D cy [.ref a] (fun H => (va_P D vwCl [(a, .inr (2, sv0))] H ∧ a < w9) ∧ H.size = w9)) (UQv (fun q => q = a) (fun H => (va_P D vwCl [(a, .inr (2, svA (.ref w9) (.ref (w9 + 1)) (.ref (w9 + 2)) (.ref (w9 + 3)) (.ref (w9 + 4))))] H ∧ ∀ i, i < 5 → va_P D vwCl [(w9 + i, .inl (cy 0, 8, .inl (fun _ => 0)))] H) ∧ H.size = (w9 + 5))) 5 40 (fun q => q = a) := by
  refine k_body (by decide +kernel) (Nat.le_of_ble_eq_true rfl) ?_
  intro p e s m below meth c ls hx hb hml hown hr hlk hmn hl hG hI
  have hml9 : c.maxLocals = 1 := hml.trans hl.1
  have hl : lv_has ls 1 [(0, .ref a)] := hl
  have hS : va_S (fun q => q = a) s.heap s.heap [] := va_S.rf
  obtain ⟨ho, hsz⟩ := hI
  have hin : meth.name = "<init>" := hmn
  obtain ⟨ho, ha9⟩ := ho
  refine lv_aload_n hx hb dX2_init_0 rfl (lv_at hl 0 rfl) ?_
  refine k_oinit hx hb hml hown hG wM_X2_3 wOI dX2_init_1 (Nat.le_of_ble_eq_true rfl) (Nat.le_of_ble_eq_true rfl) ?_
  refine lv_aload_n hx hb dX2_init_4 rfl (lv_at hl 0 rfl) ?_
  refine lv_bipush (v := 8) hx hb dX2_init_5 (by decide) ?_
  refine k_newi (q0 := w9) hx hb hG hS hsz (by decide) (N' := 8) (by decide) (by decide) (Nat.le_of_ble_eq_true rfl) (Nat.le_of_ble_eq_true rfl) dX2_init_7 (fun H1 hP1 z1 o1 hS => ?_)
  have ho := kP_keepA (A := fun _ => False) ho (fun q h _ => o1 q (by rw [hsz] at h; exact h)) (fun h => h)
  have hn7 := hP1
  have hsz : H1.size = (w9 + 1) := z1
  refine k_putF (ci := 2) (C := RX2) (T := TX2) (N := 15) (v := .ref w9) hx hb hown hG rfl kin_X2 tyX2 tyX2_ok nmX2 ho hS rfl 0 (by decide) wF_X2_9 rfl hin rfl rfl rfl (Nat.le_of_ble_eq_true rfl) dX2_init_9 (fun H1 locs hP1 z1 oq1 hS => ?_)
  have hn7 := kP_keep hn7 oq1 (by omega)
  have ho : va_P D vwCl [(a, .inr (2, [.ref w9, .null, .null, .null, .null, .int 0, .int 0, .int 0, .int 0, .long 0, .int 0, .int 0, .int 0, .int 0, .long 0]))] H1 := hP1
  have hsz := z1.trans hsz
  refine lv_aload_n hx hb dX2_init_12 rfl (lv_at hl 0 rfl) ?_
  refine lv_bipush (v := 8) hx hb dX2_init_13 (by decide) ?_
  refine k_newi (q0 := (w9 + 1)) hx hb hG hS hsz (by decide) (N' := 8) (by decide) (by decide) (Nat.le_of_ble_eq_true rfl) (Nat.le_of_ble_eq_true rfl) dX2_init_15 (fun H1 hP1 z1 o1 hS => ?_)
  have ho := kP_keepA (A := fun _ => False) ho (fun q h _ => o1 q (by rw [hsz] at h; exact h)) (fun h => h)
  have hn7 := kP_keepA (A := fun _ => False) hn7 (fun q h _ => o1 q (by rw [hsz] at h; exact h)) (fun h => h)
  have hn15 := hP1
  have hsz : H1.size = (w9 + 2) := z1
  refine k_putF (ci := 2) (C := RX2) (T := TX2) (N := 15) (v := .ref (w9 + 1)) hx hb hown hG rfl kin_X2 tyX2 tyX2_ok nmX2 ho hS rfl 1 (by decide) wF_X2_15 rfl hin rfl rfl rfl (Nat.le_of_ble_eq_true rfl) dX2_init_17 (fun H1 locs hP1 z1 oq1 hS => ?_)
  have hn7 := kP_keep hn7 oq1 (by omega)
  have hn15 := kP_keep hn15 oq1 (by omega)
  have ho : va_P D vwCl [(a, .inr (2, [.ref w9, .ref (w9 + 1), .null, .null, .null, .int 0, .int 0, .int 0, .int 0, .long 0, .int 0, .int 0, .int 0, .int 0, .long 0]))] H1 := hP1
  have hsz := z1.trans hsz
  refine lv_aload_n hx hb dX2_init_20 rfl (lv_at hl 0 rfl) ?_
  refine lv_bipush (v := 8) hx hb dX2_init_21 (by decide) ?_
  refine k_newi (q0 := (w9 + 2)) hx hb hG hS hsz (by decide) (N' := 8) (by decide) (by decide) (Nat.le_of_ble_eq_true rfl) (Nat.le_of_ble_eq_true rfl) dX2_init_23 (fun H1 hP1 z1 o1 hS => ?_)
  have ho := kP_keepA (A := fun _ => False) ho (fun q h _ => o1 q (by rw [hsz] at h; exact h)) (fun h => h)
  have hn7 := kP_keepA (A := fun _ => False) hn7 (fun q h _ => o1 q (by rw [hsz] at h; exact h)) (fun h => h)
  have hn15 := kP_keepA (A := fun _ => False) hn15 (fun q h _ => o1 q (by rw [hsz] at h; exact h)) (fun h => h)
  have hn23 := hP1
  have hsz : H1.size = (w9 + 3) := z1
  refine k_putF (ci := 2) (C := RX2) (T := TX2) (N := 15) (v := .ref (w9 + 2)) hx hb hown hG rfl kin_X2 tyX2 tyX2_ok nmX2 ho hS rfl 2 (by decide) wF_X2_18 rfl hin rfl rfl rfl (Nat.le_of_ble_eq_true rfl) dX2_init_25 (fun H1 locs hP1 z1 oq1 hS => ?_)
  have hn7 := kP_keep hn7 oq1 (by omega)
  have hn15 := kP_keep hn15 oq1 (by omega)
  have hn23 := kP_keep hn23 oq1 (by omega)
  have ho : va_P D vwCl [(a, .inr (2, [.ref w9, .ref (w9 + 1), .ref (w9 + 2), .null, .null, .int 0, .int 0, .int 0, .int 0, .long 0, .int 0, .int 0, .int 0, .int 0, .long 0]))] H1 := hP1
  have hsz := z1.trans hsz
  refine lv_aload_n hx hb dX2_init_28 rfl (lv_at hl 0 rfl) ?_
  refine lv_bipush (v := 8) hx hb dX2_init_29 (by decide) ?_
  refine k_newi (q0 := (w9 + 3)) hx hb hG hS hsz (by decide) (N' := 8) (by decide) (by decide) (Nat.le_of_ble_eq_true rfl) (Nat.le_of_ble_eq_true rfl) dX2_init_31 (fun H1 hP1 z1 o1 hS => ?_)
  have ho := kP_keepA (A := fun _ => False) ho (fun q h _ => o1 q (by rw [hsz] at h; exact h)) (fun h => h)
  have hn7 := kP_keepA (A := fun _ => False) hn7 (fun q h _ => o1 q (by rw [hsz] at h; exact h)) (fun h => h)
  have hn15 := kP_keepA (A := fun _ => False) hn15 (fun q h _ => o1 q (by rw [hsz] at h; exact h)) (fun h => h)
  have hn23 := kP_keepA (A := fun _ => False) hn23 (fun q h _ => o1 q (by rw [hsz] at h; exact h)) (fun h => h)
  have hn31 := hP1
  have hsz : H1.size = (w9 + 4) := z1
  refine k_putF (ci := 2) (C := RX2) (T := TX2) (N := 15) (v := .ref (w9 + 3)) hx hb hown hG rfl kin_X2 tyX2 tyX2_ok nmX2 ho hS rfl 3 (by decide) wF_X2_21 rfl hin rfl rfl rfl (Nat.le_of_ble_eq_true rfl) dX2_init_33 (fun H1 locs hP1 z1 oq1 hS => ?_)
  have hn7 := kP_keep hn7 oq1 (by omega)
  have hn15 := kP_keep hn15 oq1 (by omega)
  have hn23 := kP_keep hn23 oq1 (by omega)
  have hn31 := kP_keep hn31 oq1 (by omega)
  have ho : va_P D vwCl [(a, .inr (2, [.ref w9, .ref (w9 + 1), .ref (w9 + 2), .ref (w9 + 3), .null, .int 0, .int 0, .int 0, .int 0, .long 0, .int 0, .int 0, .int 0, .int 0, .long 0]))] H1 := hP1
  have hsz := z1.trans hsz
  refine lv_aload_n hx hb dX2_init_36 rfl (lv_at hl 0 rfl) ?_
  refine lv_bipush (v := 8) hx hb dX2_init_37 (by decide) ?_
  refine k_newi (q0 := (w9 + 4)) hx hb hG hS hsz (by decide) (N' := 8) (by decide) (by decide) (Nat.le_of_ble_eq_true rfl) (Nat.le_of_ble_eq_true rfl) dX2_init_39 (fun H1 hP1 z1 o1 hS => ?_)
  have ho := kP_keepA (A := fun _ => False) ho (fun q h _ => o1 q (by rw [hsz] at h; exact h)) (fun h => h)
  have hn7 := kP_keepA (A := fun _ => False) hn7 (fun q h _ => o1 q (by rw [hsz] at h; exact h)) (fun h => h)
  have hn15 := kP_keepA (A := fun _ => False) hn15 (fun q h _ => o1 q (by rw [hsz] at h; exact h)) (fun h => h)
  have hn23 := kP_keepA (A := fun _ => False) hn23 (fun q h _ => o1 q (by rw [hsz] at h; exact h)) (fun h => h)
  have hn31 := kP_keepA (A := fun _ => False) hn31 (fun q h _ => o1 q (by rw [hsz] at h; exact h)) (fun h => h)
  have hn39 := hP1
  have hsz : H1.size = (w9 + 5) := z1
  refine k_putF (ci := 2) (C := RX2) (T := TX2) (N := 15) (v := .ref (w9 + 4)) hx hb hown hG rfl kin_X2 tyX2 tyX2_ok nmX2 ho hS rfl 4 (by decide) wF_X2_24 rfl hin rfl rfl rfl (Nat.le_of_ble_eq_true rfl) dX2_init_41 (fun H1 locs hP1 z1 oq1 hS => ?_)
  have hn7 := kP_keep hn7 oq1 (by omega)
  have hn15 := kP_keep hn15 oq1 (by omega)
  have hn23 := kP_keep hn23 oq1 (by omega)
  have hn31 := kP_keep hn31 oq1 (by omega)
  have hn39 := kP_keep hn39 oq1 (by omega)
  have ho : va_P D vwCl [(a, .inr (2, [.ref w9, .ref (w9 + 1), .ref (w9 + 2), .ref (w9 + 3), .ref (w9 + 4), .int 0, .int 0, .int 0, .int 0, .long 0, .int 0, .int 0, .int 0, .int 0, .long 0]))] H1 := hP1
  have hsz := z1.trans hsz
  exact ke_uv hx hb hr hlk hS dX2_init_44 ⟨⟨ho, fun i hi => by
      rcases (show i = 0 ∨ i = 1 ∨ i = 2 ∨ i = 3 ∨ i = 4 by omega) with e | e | e | e | e <;> subst e
      · exact hn7
      · exact hn15
      · exact hn23
      · exact hn31
      · exact hn39⟩, hsz⟩
set_option maxHeartbeats 4000000 in
set_option maxRecDepth 100000 in
theorem c_X0_init (l : Launch) (D : va_G) (cy : Nat → ClassId) (a : Nat) (n x y b : Int32) (w9 : Nat) : Met l yX0_init [.code yX0_init cX0_init 6 none] ({ frames := 2, cells := 10, slots := 109, locals := 40 } : Room) (PA D cy [.ref a, .int n, .int x, .int y, .int b] (fun H => (va_P D vwCl [(a, .inr (0, rc0))] H ∧ a < w9) ∧ H.size = w9)) (UQv (fun q => q = a ∨ w9 ≤ q) (fun H => (va_P D vwCl [(a, .inr (0, rcF (vNew n x y b) (w9 + 1) w9))] H ∧ va_P D vwCl [(w9, .inr (5, trF tNew))] H ∧ va_P D vwCl [(w9 + 1, .inl (cy 4, 8, rfs (fun i => if i < 8 then some (w9 + 2 + i) else none)))] H ∧ ∀ i, i < 8 → va_P D vwCl [(w9 + 2 + i, .inr (1, stF (fun _ => 0)))] H) ∧ H.size = (w9 + 10))) 10 109 (fun q => q = a ∨ w9 ≤ q) := by
  refine k_bodyA (by decide +kernel) (Nat.le_of_ble_eq_true rfl) ?_
  intro p e s m below meth c ls hx hb hml hown hr hlk hmn hl hG hI hAW
  have hml9 : c.maxLocals = 6 := hml.trans hl.1
  have hl : lv_has ls 6 [(0, .ref a), (1, .int n), (2, .int x), (3, .int y), (4, .int b)] := hl
  have hS : va_S (fun q => q = a ∨ w9 ≤ q) s.heap s.heap [] := va_S.rf
  obtain ⟨ho, hsz⟩ := hI
  have hin : meth.name = "<init>" := hmn
  obtain ⟨ho, ha9⟩ := ho
  refine lv_aload_n hx hb dX0_init_0 rfl (lv_at hl 0 rfl) ?_
  refine k_oinit hx hb hml hown hG wM_X0_3 wOI dX0_init_1 (Nat.le_of_ble_eq_true rfl) (Nat.le_of_ble_eq_true rfl) ?_
  refine lv_aload_n hx hb dX0_init_4 rfl (lv_at hl 0 rfl) ?_
  refine lv_iload_n hx hb dX0_init_5 rfl (lv_at hl 1 rfl) ?_
  refine k_putF (ci := 0) (C := RX0) (T := TX0) (N := 13) (v := .int n) hx hb hown hG rfl kin_X0 tyX0 tyX0_ok nmX0 ho hS (Or.inl rfl) 0 (by decide) wF_X0_9 rfl hin rfl rfl rfl (Nat.le_of_ble_eq_true rfl) dX0_init_6 (fun H1 locs hP1 z1 oq1 hS => ?_)
  have ho : va_P D vwCl [(a, .inr (0, [.int n, .int 0, .null, .null, .int 0, .int 0, .int 0, .int 0, .int 0, .int 0, .int 0, .int 0, .int 0]))] H1 := hP1
  have hsz := z1.trans hsz
  refine lv_aload_n hx hb dX0_init_9 rfl (lv_at hl 0 rfl) ?_
  refine lv_iload_n hx hb dX0_init_10 rfl (lv_at hl 2 rfl) ?_
  refine k_put (ci := 0) (C := RX0) (T := TX0) (N := 13) (v := .int x) hx hb hown hG rfl kin_X0 tyX0 tyX0_ok nmX0 ho hS (Or.inl rfl) 4 (by decide) wF_X0_15 rfl rfl rfl (Nat.le_of_ble_eq_true rfl) dX0_init_11 (fun H1 locs hP1 z1 oq1 hS => ?_)
  have ho : va_P D vwCl [(a, .inr (0, [.int n, .int 0, .null, .null, .int x, .int 0, .int 0, .int 0, .int 0, .int 0, .int 0, .int 0, .int 0]))] H1 := hP1
  have hsz := z1.trans hsz
  refine lv_aload_n hx hb dX0_init_14 rfl (lv_at hl 0 rfl) ?_
  refine lv_iload_n hx hb dX0_init_15 rfl (lv_at hl 3 rfl) ?_
  refine k_put (ci := 0) (C := RX0) (T := TX0) (N := 13) (v := .int y) hx hb hown hG rfl kin_X0 tyX0 tyX0_ok nmX0 ho hS (Or.inl rfl) 5 (by decide) wF_X0_18 rfl rfl rfl (Nat.le_of_ble_eq_true rfl) dX0_init_16 (fun H1 locs hP1 z1 oq1 hS => ?_)
  have ho : va_P D vwCl [(a, .inr (0, [.int n, .int 0, .null, .null, .int x, .int y, .int 0, .int 0, .int 0, .int 0, .int 0, .int 0, .int 0]))] H1 := hP1
  have hsz := z1.trans hsz
  refine lv_aload_n hx hb dX0_init_19 rfl (lv_at hl 0 rfl) ?_
  refine lv_iload hx hb dX0_init_20 (lv_at hl 4 rfl) ?_
  refine k_putF (ci := 0) (C := RX0) (T := TX0) (N := 13) (v := .int b) hx hb hown hG rfl kin_X0 tyX0 tyX0_ok nmX0 ho hS (Or.inl rfl) 1 (by decide) wF_X0_21 rfl hin rfl rfl rfl (Nat.le_of_ble_eq_true rfl) dX0_init_22 (fun H1 locs hP1 z1 oq1 hS => ?_)
  have ho : va_P D vwCl [(a, .inr (0, [.int n, .int b, .null, .null, .int x, .int y, .int 0, .int 0, .int 0, .int 0, .int 0, .int 0, .int 0]))] H1 := hP1
  have hsz := z1.trans hsz
  refine lv_aload_n hx hb dX0_init_25 rfl (lv_at hl 0 rfl) ?_
  refine lv_iconst (v := 5) hx hb dX0_init_26 (by decide) ?_
  refine k_put (ci := 0) (C := RX0) (T := TX0) (N := 13) (v := .int 5) hx hb hown hG rfl kin_X0 tyX0 tyX0_ok nmX0 ho hS (Or.inl rfl) 6 (by decide) wF_X0_24 rfl rfl rfl (Nat.le_of_ble_eq_true rfl) dX0_init_27 (fun H1 locs hP1 z1 oq1 hS => ?_)
  have ho : va_P D vwCl [(a, .inr (0, [.int n, .int b, .null, .null, .int x, .int y, .int 5, .int 0, .int 0, .int 0, .int 0, .int 0, .int 0]))] H1 := hP1
  have hsz := z1.trans hsz
  refine lv_aload_n hx hb dX0_init_30 rfl (lv_at hl 0 rfl) ?_
  refine lv_iconst (v := 5) hx hb dX0_init_31 (by decide) ?_
  refine k_put (ci := 0) (C := RX0) (T := TX0) (N := 13) (v := .int 5) hx hb hown hG rfl kin_X0 tyX0 tyX0_ok nmX0 ho hS (Or.inl rfl) 7 (by decide) wF_X0_27 rfl rfl rfl (Nat.le_of_ble_eq_true rfl) dX0_init_32 (fun H1 locs hP1 z1 oq1 hS => ?_)
  have ho : va_P D vwCl [(a, .inr (0, [.int n, .int b, .null, .null, .int x, .int y, .int 5, .int 5, .int 0, .int 0, .int 0, .int 0, .int 0]))] H1 := hP1
  have hsz := z1.trans hsz
  refine lv_aload_n hx hb dX0_init_35 rfl (lv_at hl 0 rfl) ?_
  refine lv_iconst (v := 1) hx hb dX0_init_36 (by decide) ?_
  refine k_put (ci := 0) (C := RX0) (T := TX0) (N := 13) (v := .int 1) hx hb hown hG rfl kin_X0 tyX0 tyX0_ok nmX0 ho hS (Or.inl rfl) 9 (by decide) wF_X0_30 rfl (by first | exact bI_nar _ | decide) (by first | exact bI_fit _ | decide) (Nat.le_of_ble_eq_true rfl) dX0_init_37 (fun H1 locs hP1 z1 oq1 hS => ?_)
  have ho : va_P D vwCl [(a, .inr (0, [.int n, .int b, .null, .null, .int x, .int y, .int 5, .int 5, .int 0, .int 1, .int 0, .int 0, .int 0]))] H1 := hP1
  have hsz := z1.trans hsz
  refine lv_aload_n hx hb dX0_init_40 rfl (lv_at hl 0 rfl) ?_
  refine lv_bipush (v := 6) hx hb dX0_init_41 (by decide) ?_
  refine k_put (ci := 0) (C := RX0) (T := TX0) (N := 13) (v := .int 6) hx hb hown hG rfl kin_X0 tyX0 tyX0_ok nmX0 ho hS (Or.inl rfl) 10 (by decide) wF_X0_34 rfl rfl rfl (Nat.le_of_ble_eq_true rfl) dX0_init_43 (fun H1 locs hP1 z1 oq1 hS => ?_)
  have ho : va_P D vwCl [(a, .inr (0, [.int n, .int b, .null, .null, .int x, .int y, .int 5, .int 5, .int 0, .int 1, .int 6, .int 0, .int 0]))] H1 := hP1
  have hsz := z1.trans hsz
  refine lv_aload_n hx hb dX0_init_46 rfl (lv_at hl 0 rfl) ?_
  refine lv_iconst (v := (-1)) hx hb dX0_init_47 (by decide) ?_
  refine k_put (ci := 0) (C := RX0) (T := TX0) (N := 13) (v := .int (-1)) hx hb hown hG rfl kin_X0 tyX0 tyX0_ok nmX0 ho hS (Or.inl rfl) 12 (by decide) wF_X0_37 rfl rfl rfl (Nat.le_of_ble_eq_true rfl) dX0_init_48 (fun H1 locs hP1 z1 oq1 hS => ?_)
  have ho : va_P D vwCl [(a, .inr (0, [.int n, .int b, .null, .null, .int x, .int y, .int 5, .int 5, .int 0, .int 1, .int 6, .int 0, .int (-1)]))] H1 := hP1
  have hsz := z1.trans hsz
  refine lv_aload_n hx hb dX0_init_51 rfl (lv_at hl 0 rfl) ?_
  refine k_new (q0 := w9) (ci := 5) (C := RX5) (T := TX5) (N := 13) (fs := (trF (fun _ => 0))) hx hb hown hG hS hsz rfl kin_X5 tyX5 tyX5_ok wC_X0_40 wI_X5 wIni_X5 df5 (Nat.le_of_ble_eq_true rfl) (Nat.le_of_ble_eq_true rfl) dX0_init_52 (fun H1 hP1 z1 o1 hS => ?_)
  have ho := kP_keepA (A := fun _ => False) ho (fun q h _ => o1 q (by rw [hsz] at h; exact h)) (fun h => h)
  have hn52 := hP1
  have hsz : H1.size = (w9 + 1) := z1
  refine lv_dup hx hb dX0_init_55 rfl ?_
  refine kc_uv (kr_IN (b := w9) (As := []) (rest := [.ref w9, .ref a]) hx hb hml hown hG (c_X5_init l D cy w9 (w9 + 1)) (PC.preS hG ⟨hn52, hsz⟩) cf_X5_init wMN_X0_42 ⟨rfl, rfl, by decide, by decide⟩ rfl rfl (Nat.le_of_ble_eq_true rfl) ⟨Nat.le_of_ble_eq_true rfl, Nat.le_of_ble_eq_true rfl⟩ dX0_init_56) hS (fun q h => Or.inr (by omega)) (fun H1 locs hp1 z1 oq1 hS => ?_)
  have ho := kP_keepA ho oq1 (show ¬ a = w9 by omega)
  have hsz := hp1.2
  have hn52 := hp1.1
  refine k_putF (ci := 0) (C := RX0) (T := TX0) (N := 13) (v := .ref w9) hx hb hown hG rfl kin_X0 tyX0 tyX0_ok nmX0 ho hS (Or.inl rfl) 3 (by decide) wF_X0_43 rfl hin rfl rfl rfl (Nat.le_of_ble_eq_true rfl) dX0_init_59 (fun H1 locs hP1 z1 oq1 hS => ?_)
  have hn52 := kP_keep hn52 oq1 (show ¬ w9 = a by omega)
  have ho : va_P D vwCl [(a, .inr (0, [.int n, .int b, .null, .ref w9, .int x, .int y, .int 5, .int 5, .int 0, .int 1, .int 6, .int 0, .int (-1)]))] H1 := hP1
  have hsz := z1.trans hsz
  refine lv_aload_n hx hb dX0_init_62 rfl (lv_at hl 0 rfl) ?_
  refine lv_bipush (v := 8) hx hb dX0_init_63 (by decide) ?_
  refine k_newq (q0 := (w9 + 1)) hx hb hown hG hS hsz 4 rfl wC_X0_47 hAW wAO__object_Pseudorange_Sight_ (by decide) (N' := 8) (by decide) (by decide) (Nat.le_of_ble_eq_true rfl) (Nat.le_of_ble_eq_true rfl) dX0_init_65 (fun H1 hP1 z1 o1 hS => ?_)
  have ho := kP_keepA (A := fun _ => False) ho (fun q h _ => o1 q (by rw [hsz] at h; exact h)) (fun h => h)
  have hn52 := kP_keepA (A := fun _ => False) hn52 (fun q h _ => o1 q (by rw [hsz] at h; exact h)) (fun h => h)
  have hn65 := hP1
  have hsz : H1.size = (w9 + 2) := z1
  refine k_putF (ci := 0) (C := RX0) (T := TX0) (N := 13) (v := .ref (w9 + 1)) hx hb hown hG rfl kin_X0 tyX0 tyX0_ok nmX0 ho hS (Or.inl rfl) 2 (by decide) wF_X0_49 rfl hin rfl rfl rfl (Nat.le_of_ble_eq_true rfl) dX0_init_68 (fun H1 locs hP1 z1 oq1 hS => ?_)
  have hn52 := kP_keep hn52 oq1 (show ¬ w9 = a by omega)
  have hn65 := kP_keep hn65 oq1 (show ¬ (w9 + 1) = a by omega)
  have ho : va_P D vwCl [(a, .inr (0, [.int n, .int b, .ref (w9 + 1), .ref w9, .int x, .int y, .int 5, .int 5, .int 0, .int 1, .int 6, .int 0, .int (-1)]))] H1 := hP1
  have hsz := z1.trans hsz
  refine lv_iconst (v := 0) hx hb dX0_init_71 (by decide) ?_
  refine lv_istore (lv' := [(5, .int 0), (0, .ref a), (1, .int n), (2, .int x), (3, .int y), (4, .int b)]) hx hb dX0_init_72 hl (by decide) rfl (fun ls hl => ?_)
  have hml : c.maxLocals = ls.size := hml9.trans hl.1.symm
  have lp74_1 : ∀ (n9 : Nat) (j cs sl : Nat) (H : Heap) (locs : List Loc), 9 - j ≤ n9 → j ≤ 8 → cs = 2 + j → sl = 21 + 11 * j → H.size = w9 + 2 + j → va_P D vwCl [(a, .inr (0, rcF (vNew n x y b) (w9 + 1) w9))] H → va_P D vwCl [(w9, .inr (5, trF tNew))] H → va_P D vwCl [(w9 + 1, .inl (cy 4, 8, rfs (fun i => if i < j then some (w9 + 2 + i) else none)))] H → (∀ i, i < j → va_P D vwCl [(w9 + 2 + i, .inr (1, stF (fun _ => 0)))] H) → va_S (fun q => q = a ∨ w9 ≤ q) s.heap H locs →  ∀ ls : Array Slot, lv_has ls 6 [(5, .int (nI j)), (0, .ref a), (1, .int n), (2, .int x), (3, .int y), (4, .int b)] → W p l e ({ frames := 2, cells := 10, slots := 109, locals := 40 } : Room) s m ([.ref a, .int n, .int x, .int y, .int b] : List Value).toArray below meth c H locs cs sl (MQ below (UQv (fun q => q = a ∨ w9 ≤ q) (fun H => (va_P D vwCl [(a, .inr (0, rcF (vNew n x y b) (w9 + 1) w9))] H ∧ va_P D vwCl [(w9, .inr (5, trF tNew))] H ∧ va_P D vwCl [(w9 + 1, .inl (cy 4, 8, rfs (fun i => if i < 8 then some (w9 + 2 + i) else none)))] H ∧ ∀ i, i < 8 → va_P D vwCl [(w9 + 2 + i, .inr (1, stF (fun _ => 0)))] H) ∧ H.size = (w9 + 10))) ([.ref a, .int n, .int x, .int y, .int b] : List Value).toArray s 10 109 (fun q => q = a ∨ w9 ≤ q)) (F0 m 74 ls []) := by
    intro n9
    induction n9 with
    | zero =>
      intro j cs sl H locs h9
      intro hj; exact absurd h9 (by omega)
    | succ n9 ih9 =>
      intro j cs sl H locs hn9 hj ecs esl hsz ho hn52 hn65 hsg hS ls hl
      have hml : c.maxLocals = ls.size := hml9.trans hl.1.symm
      refine lv_iload hx hb dX0_init_74 (lv_at hl 0 rfl) ?_
      refine lv_bipush (v := 8) hx hb dX0_init_76 (by decide) ?_
      refine lv_icmp_ge (tgt := 101) hx hb dX0_init_78 (by decide) (fun c_78 => ?_) (fun c_78 => ?_)
      · have ej : j = 8 := Nat.le_antisymm hj ((nI_leI (by omega) (by omega)).mp c_78)
        subst ej
        obtain rfl : cs = 10 := ecs
        obtain rfl : sl = 109 := esl
        exact ke_uv hx hb hr hlk hS dX0_init_101 ⟨⟨ho, hn52, hn65, hsg⟩, hsz⟩
      · have hltj : j < 8 := by
          rcases Nat.lt_or_ge j 8 with q | q
          · exact q
          · exact absurd (nI_le q (by omega)) c_78
        refine lv_aload_n hx hb dX0_init_81 rfl (lv_at hl 1 rfl) ?_
        refine k_get (ci := 0) (C := RX0) (T := TX0) (N := 13) (v := .ref (w9 + 1)) hx hb hown hG rfl kin_X0 ho 2 (by decide) wF_X0_49 rfl dX0_init_82 ?_
        refine lv_iload hx hb dX0_init_85 (lv_at hl 0 rfl) ?_
        refine k_new (q0 := (w9 + 2 + j)) (ci := 1) (C := RX1) (T := TX1) (N := 11) (fs := (stF (fun _ => 0))) hx hb hown hG hS hsz rfl kin_X1 tyX1 tyX1_ok wC_X0_47 wI_X1 wIni_X1 df1 (show cs + 1 ≤ 10 by omega) (show sl + 11 ≤ 109 by omega) dX0_init_87 (fun H1 hP1 z1 o1 hS => ?_)
        have hsg : ∀ i, i < j → va_P D vwCl [(w9 + 2 + i, .inr (1, stF (fun _ => 0)))] H1 := fun i hi => kP_keepA (A := fun _ => False) (hsg i hi) (fun q h _ => o1 q (by rw [hsz] at h; exact h)) (fun h => h)
        have ho := kP_keepA (A := fun _ => False) ho (fun q h _ => o1 q (by rw [hsz] at h; exact h)) (fun h => h)
        have hn52 := kP_keepA (A := fun _ => False) hn52 (fun q h _ => o1 q (by rw [hsz] at h; exact h)) (fun h => h)
        have hn65 := kP_keepA (A := fun _ => False) hn65 (fun q h _ => o1 q (by rw [hsz] at h; exact h)) (fun h => h)
        have hn87 := hP1
        have hsz : H1.size = ((w9 + 2 + j) + 1) := z1
        refine lv_dup hx hb dX0_init_90 rfl ?_
        refine kc_uv (kr_IN (b := (w9 + 2 + j)) (As := []) (rest := [.ref (w9 + 2 + j), .int (nI j), .ref (w9 + 1)]) hx hb hml hown hG (c_X1_init l D cy (w9 + 2 + j) ((w9 + 2 + j) + 1)) (PC.preS hG ⟨trivial, hsz⟩) cf_X1_init wMN_X0_53 ⟨rfl, rfl, by decide, by decide⟩ rfl rfl (Nat.le_of_ble_eq_true rfl) ⟨(show (cs + 1) + 0 ≤ 10 by omega), (show (sl + 11) + 0 ≤ 109 by omega)⟩ dX0_init_91) hS (fun q h => h.elim) (fun H1 locs hp1 z1 oq1 hS => ?_)
        have hsg : ∀ i, i < j → va_P D vwCl [(w9 + 2 + i, .inr (1, stF (fun _ => 0)))] H1 := fun i hi => kP_keepA (hsg i hi) oq1 (fun h => h)
        have ho := kP_keepA ho oq1 (fun h => h)
        have hn52 := kP_keepA hn52 oq1 (fun h => h)
        have hn65 := kP_keepA hn65 oq1 (fun h => h)
        have hn87 := kP_keepA hn87 oq1 (fun h => h)
        have hsz := hp1.2
        refine k_astq (ci := 1) (C := RX1) (T := TX1) (N := 11) hx hb hG 4 rfl rfl hn65 hn87 hS (Or.inr (by omega)) (vp_in_nI hltj (by decide)) dX0_init_94 (fun H1 locs hP1 z1 oq1 hS => ?_)
        rw [nI_clamp (by omega), va_up_push (by rfl)] at hP1
        have hsg : ∀ i, i < j → va_P D vwCl [(w9 + 2 + i, .inr (1, stF (fun _ => 0)))] H1 := fun i hi => kP_keep (hsg i hi) oq1 (by omega)
        have ho := kP_keep ho oq1 (show ¬ a = (w9 + 1) by omega)
        have hn52 := kP_keep hn52 oq1 (show ¬ w9 = (w9 + 1) by omega)
        have hn87 := kP_keep hn87 oq1 (show ¬ (w9 + 2 + j) = (w9 + 1) by omega)
        have hn65 := hP1
        have hsz := z1.trans hsz
        refine lv_iinc (v := (nI (j + 1))) (lv' := [(5, .int (nI (j + 1))), (0, .ref a), (1, .int n), (2, .int x), (3, .int y), (4, .int b)]) hx hb dX0_init_95 hl (k := 0) rfl ((nI_succ j).symm) (by decide) rfl (fun ls hl => ?_)
        have hml : c.maxLocals = ls.size := hml9.trans hl.1.symm
        refine lv_goto (tgt := 74) hx hb dX0_init_98 (by decide) ?_
        exact ih9 (j + 1) _ _ _ _ (by omega) hltj (by omega) (by omega) (hsz.trans (by omega)) ho hn52 hn65 (fun i hi => (Nat.lt_or_ge i j).elim (fun q => hsg i q) (fun q => by have e : i = j := (by omega); rw [e]; exact hn87)) hS ls (lv_sub hl [0, 1, 2, 3, 4, 5] rfl)
  exact lp74_1 9 0 _ _ _ _ (Nat.le_refl _) (Nat.zero_le _) rfl rfl hsz ho hn52 (by rw [show (fun i => if i < 0 then some (w9 + 2 + i) else none) = (fun _ => none) from rfl]; exact hn65) (fun i hi => absurd hi (by omega)) hS ls (lv_sub hl [0, 1, 2, 3, 4, 5] rfl)
set_option maxHeartbeats 4000000 in
set_option maxRecDepth 100000 in
theorem c_X6_init (l : Launch) (D : va_G) (cy : Nat → ClassId) (a : Nat) (w9 : Nat) : Met l yX6_init [.code yX6_init cX6_init 1 none] ({ frames := 2, cells := 9, slots := 69, locals := 40 } : Room) (PA D cy [.ref a] (fun H => (va_P D vwCl [(a, .inr (6, ps0))] H ∧ a < w9) ∧ H.size = w9)) (UQv (fun q => q = a ∨ w9 ≤ q) (fun H => (CW D cy (adNew a w9) 0 0 0 (fun _ _ => 0) (fun _ => 0, 0, 0, fun _ _ => 0) H) ∧ H.size = (w9 + 9))) 9 69 (fun q => q = a ∨ w9 ≤ q) := by
  refine k_bodyA (by decide +kernel) (Nat.le_of_ble_eq_true rfl) ?_
  intro p e s m below meth c ls hx hb hml hown hr hlk hmn hl hG hI hAW
  have hml9 : c.maxLocals = 1 := hml.trans hl.1
  have hl : lv_has ls 1 [(0, .ref a)] := hl
  have hS : va_S (fun q => q = a ∨ w9 ≤ q) s.heap s.heap [] := va_S.rf
  obtain ⟨ho, hsz⟩ := hI
  have hin : meth.name = "<init>" := hmn
  obtain ⟨ho, ha9⟩ := ho
  refine lv_aload_n hx hb dX6_init_0 rfl (lv_at hl 0 rfl) ?_
  refine k_oinit hx hb hml hown hG wM_X6_1 wOI dX6_init_1 (Nat.le_of_ble_eq_true rfl) (Nat.le_of_ble_eq_true rfl) ?_
  refine lv_aload_n hx hb dX6_init_4 rfl (lv_at hl 0 rfl) ?_
  refine lv_bipush (v := 8) hx hb dX6_init_5 (by decide) ?_
  refine k_newq (q0 := w9) hx hb hown hG hS hsz 1 rfl wC_X6_9 hAW wAO__object_Pseudorange_Star_ (by decide) (N' := 8) (by decide) (by decide) (Nat.le_of_ble_eq_true rfl) (Nat.le_of_ble_eq_true rfl) dX6_init_7 (fun H1 hP1 z1 o1 hS => ?_)
  have ho := kP_keepA (A := fun _ => False) ho (fun q h _ => o1 q (by rw [hsz] at h; exact h)) (fun h => h)
  have hn7 := hP1
  have hsz : H1.size = (w9 + 1) := z1
  refine k_putF (ci := 6) (C := RX6) (T := TX6) (N := 8) (v := .ref w9) hx hb hown hG rfl kin_X6 tyX6 tyX6_ok nmX6 ho hS (Or.inl rfl) 0 (by decide) wF_X6_11 rfl hin rfl rfl rfl (Nat.le_of_ble_eq_true rfl) dX6_init_10 (fun H1 locs hP1 z1 oq1 hS => ?_)
  have hn7 := kP_keep hn7 oq1 (show ¬ w9 = a by omega)
  have ho : va_P D vwCl [(a, .inr (6, [.ref w9, .null, .null, .null, .int 0, .int 0, .int 0, .int 0]))] H1 := hP1
  have hsz := z1.trans hsz
  refine lv_aload_n hx hb dX6_init_13 rfl (lv_at hl 0 rfl) ?_
  refine lv_iconst (v := 3) hx hb dX6_init_14 (by decide) ?_
  refine k_newq (q0 := (w9 + 1)) hx hb hown hG hS hsz 2 rfl wC_X6_15 hAW wAO__object_Pseudorange_Station_ (by decide) (N' := 3) (by decide) (by decide) (Nat.le_of_ble_eq_true rfl) (Nat.le_of_ble_eq_true rfl) dX6_init_15 (fun H1 hP1 z1 o1 hS => ?_)
  have ho := kP_keepA (A := fun _ => False) ho (fun q h _ => o1 q (by rw [hsz] at h; exact h)) (fun h => h)
  have hn7 := kP_keepA (A := fun _ => False) hn7 (fun q h _ => o1 q (by rw [hsz] at h; exact h)) (fun h => h)
  have hn15 := hP1
  have hsz : H1.size = (w9 + 2) := z1
  refine k_putF (ci := 6) (C := RX6) (T := TX6) (N := 8) (v := .ref (w9 + 1)) hx hb hown hG rfl kin_X6 tyX6 tyX6_ok nmX6 ho hS (Or.inl rfl) 1 (by decide) wF_X6_17 rfl hin rfl rfl rfl (Nat.le_of_ble_eq_true rfl) dX6_init_18 (fun H1 locs hP1 z1 oq1 hS => ?_)
  have hn7 := kP_keep hn7 oq1 (show ¬ w9 = a by omega)
  have hn15 := kP_keep hn15 oq1 (show ¬ (w9 + 1) = a by omega)
  have ho : va_P D vwCl [(a, .inr (6, [.ref w9, .ref (w9 + 1), .null, .null, .int 0, .int 0, .int 0, .int 0]))] H1 := hP1
  have hsz := z1.trans hsz
  refine lv_aload_n hx hb dX6_init_21 rfl (lv_at hl 0 rfl) ?_
  refine lv_iconst (v := 3) hx hb dX6_init_22 (by decide) ?_
  refine k_newq (q0 := (w9 + 2)) hx hb hown hG hS hsz 3 rfl wC_X6_21 hAW wAO__object_Pseudorange_Receiver_ (by decide) (N' := 3) (by decide) (by decide) (Nat.le_of_ble_eq_true rfl) (Nat.le_of_ble_eq_true rfl) dX6_init_23 (fun H1 hP1 z1 o1 hS => ?_)
  have ho := kP_keepA (A := fun _ => False) ho (fun q h _ => o1 q (by rw [hsz] at h; exact h)) (fun h => h)
  have hn7 := kP_keepA (A := fun _ => False) hn7 (fun q h _ => o1 q (by rw [hsz] at h; exact h)) (fun h => h)
  have hn15 := kP_keepA (A := fun _ => False) hn15 (fun q h _ => o1 q (by rw [hsz] at h; exact h)) (fun h => h)
  have hn23 := hP1
  have hsz : H1.size = (w9 + 3) := z1
  refine k_putF (ci := 6) (C := RX6) (T := TX6) (N := 8) (v := .ref (w9 + 2)) hx hb hown hG rfl kin_X6 tyX6 tyX6_ok nmX6 ho hS (Or.inl rfl) 2 (by decide) wF_X6_23 rfl hin rfl rfl rfl (Nat.le_of_ble_eq_true rfl) dX6_init_26 (fun H1 locs hP1 z1 oq1 hS => ?_)
  have hn7 := kP_keep hn7 oq1 (show ¬ w9 = a by omega)
  have hn15 := kP_keep hn15 oq1 (show ¬ (w9 + 1) = a by omega)
  have hn23 := kP_keep hn23 oq1 (show ¬ (w9 + 2) = a by omega)
  have ho : va_P D vwCl [(a, .inr (6, [.ref w9, .ref (w9 + 1), .ref (w9 + 2), .null, .int 0, .int 0, .int 0, .int 0]))] H1 := hP1
  have hsz := z1.trans hsz
  refine lv_aload_n hx hb dX6_init_29 rfl (lv_at hl 0 rfl) ?_
  refine k_new (q0 := (w9 + 3)) (ci := 2) (C := RX2) (T := TX2) (N := 15) (fs := sv0) hx hb hown hG hS hsz rfl kin_X2 tyX2 tyX2_ok wC_X6_27 wI_X2 wIni_X2 df2 (Nat.le_of_ble_eq_true rfl) (Nat.le_of_ble_eq_true rfl) dX6_init_30 (fun H1 hP1 z1 o1 hS => ?_)
  have ho := kP_keepA (A := fun _ => False) ho (fun q h _ => o1 q (by rw [hsz] at h; exact h)) (fun h => h)
  have hn7 := kP_keepA (A := fun _ => False) hn7 (fun q h _ => o1 q (by rw [hsz] at h; exact h)) (fun h => h)
  have hn15 := kP_keepA (A := fun _ => False) hn15 (fun q h _ => o1 q (by rw [hsz] at h; exact h)) (fun h => h)
  have hn23 := kP_keepA (A := fun _ => False) hn23 (fun q h _ => o1 q (by rw [hsz] at h; exact h)) (fun h => h)
  have hn30 := hP1
  have hsz : H1.size = (w9 + 4) := z1
  refine lv_dup hx hb dX6_init_33 rfl ?_
  refine kc_uv (kr_IN (b := (w9 + 3)) (As := []) (rest := [.ref (w9 + 3), .ref a]) hx hb hml hown hG (c_X2_init l D cy (w9 + 3) (w9 + 4)) (PC.preS hG ⟨⟨hn30, by omega⟩, hsz⟩) cf_X2_init wMN_X6_29 ⟨rfl, rfl, by decide, by decide⟩ rfl rfl (Nat.le_of_ble_eq_true rfl) ⟨Nat.le_of_ble_eq_true rfl, Nat.le_of_ble_eq_true rfl⟩ dX6_init_34) hS (fun q h => Or.inr (by omega)) (fun H1 locs hp1 z1 oq1 hS => ?_)
  have ho := kP_keepA ho oq1 (show ¬ a = (w9 + 3) by omega)
  have hn7 := kP_keepA hn7 oq1 (show ¬ w9 = (w9 + 3) by omega)
  have hn15 := kP_keepA hn15 oq1 (show ¬ (w9 + 1) = (w9 + 3) by omega)
  have hn23 := kP_keepA hn23 oq1 (show ¬ (w9 + 2) = (w9 + 3) by omega)
  have hsz := hp1.2
  have hsv := hp1.1
  refine k_putF (ci := 6) (C := RX6) (T := TX6) (N := 8) (v := .ref (w9 + 3)) hx hb hown hG rfl kin_X6 tyX6 tyX6_ok nmX6 ho hS (Or.inl rfl) 3 (by decide) wF_X6_30 rfl hin rfl rfl rfl (Nat.le_of_ble_eq_true rfl) dX6_init_37 (fun H1 locs hP1 z1 oq1 hS => ?_)
  have hsv : va_P D vwCl [(w9 + 3, .inr (2, svA (.ref (w9 + 4)) (.ref (w9 + 4 + 1)) (.ref (w9 + 4 + 2)) (.ref (w9 + 4 + 3)) (.ref (w9 + 4 + 4))))] H1 ∧ ∀ i, i < 5 → va_P D vwCl [(w9 + 4 + i, .inl (cy 0, 8, .inl (fun _ => 0)))] H1 := ⟨kP_keep hsv.1 oq1 (by omega), fun i hi => kP_keep (hsv.2 i hi) oq1 (by omega)⟩
  have hn7 := kP_keep hn7 oq1 (show ¬ w9 = a by omega)
  have hn15 := kP_keep hn15 oq1 (show ¬ (w9 + 1) = a by omega)
  have hn23 := kP_keep hn23 oq1 (show ¬ (w9 + 2) = a by omega)
  have ho : va_P D vwCl [(a, .inr (6, [.ref w9, .ref (w9 + 1), .ref (w9 + 2), .ref (w9 + 3), .int 0, .int 0, .int 0, .int 0]))] H1 := hP1
  have hsz := z1.trans hsz
  exact ke_uv hx hb hr hlk hS dX6_init_40 ⟨adNew_CW ho hn7 hn15 hn23 hsv.1 hsv.2, hsz⟩
set_option maxHeartbeats 4000000 in
set_option maxRecDepth 100000 in
theorem c_X6_star (l : Launch) (hlf : l.stackTraces = false) (D : va_G) (cy : Nat → ClassId) (ad : Nat → Nat) (ns nt nr : Nat) (hL : LB ns nt nr) (M : Nat → Nat → Int32) (V : SX) (hA : AI ad ns nt nr) (ra ph sp of dr : Int32) (w9 : Nat) : vx_Met l yX6_star [.code yX6_star cX6_star 6 (some .int)] ({ frames := 6, cells := 1, slots := 11, locals := 82 } : Room) (PX2 D cy [.ref (ad 0), .int ra, .int ph, .int sp, .int of, .int dr] (fun H => CW D cy ad ns nt nr M V H ∧ H.size = w9)) (UQi (fun q => CA ad ns nt nr q ∨ w9 ≤ q) (fun r H => kStar ns ra ph sp of dr = 0 ∧ ns < 8 ∧ r = nI ns ∧ CW D cy (adA ad (10 + ns) w9) (ns + 1) nt nr (mset M (10 + ns) (rNew ra ph sp of dr)) V H)) (XQ (errP (kStar ns ra ph sp of dr) EIA EIS)) 1 11 (fun q => CA ad ns nt nr q ∨ w9 ≤ q) := by
  refine k_bodyX2 (by decide +kernel) (Nat.le_of_ble_eq_true rfl) ?_
  intro p e s m below meth c ls hx hb hml hown hr hlk hmn hl hG hI hnx hX hZ hAW
  have hml9 : c.maxLocals = 6 := hml.trans hl.1
  have hl : lv_has ls 6 [(0, .ref (ad 0)), (1, .int ra), (2, .int ph), (3, .int sp), (4, .int of), (5, .int dr)] := hl
  obtain ⟨hw, hsz⟩ := hI
  have hS : va_S (fun q => CA ad ns nt nr q ∨ w9 ≤ q) s.heap s.heap [] := va_S.rf
  refine lv_iload_n hx hb dX6_star_0 rfl (lv_at hl 1 rfl) ?_
  refine lv_bipush (v := 60) hx hb dX6_star_1 (by decide) ?_
  refine lv_sipush (v := 200) hx hb dX6_star_3 (by decide) ?_
  refine kc_i (kr_S (As := [.int ra, .int 60, .int 200]) (rest := []) hx hb hml hown hG (c_X6_isOutside l D cy ra 60 200) cf_X6_isOutside wM_X6_34 trivial ⟨rfl, rfl, by decide, by decide⟩ rfl rfl (Nat.le_of_ble_eq_true rfl) ⟨Nat.le_of_ble_eq_true rfl, Nat.le_of_ble_eq_true rfl⟩ dX6_star_6) ?_
  refine lv_if_ne (tgt := 32) hx hb dX6_star_9 (by decide) (fun c_9 => ?_) (fun c_9 => ?_)
  · exact k_throw ex_ia wStr_X6_40 hx hb hml hown hlk hlf hG hnx hX hZ dX6_star_32 dX6_star_35 dX6_star_36 dX6_star_38 dX6_star_41 ⟨by decide, by decide, by decide, by decide⟩ ⟨by decide, by decide⟩ (Or.inl ⟨by unfold kStar; rw [if_neg c_9], rfl⟩)
  · refine lv_iload_n hx hb dX6_star_12 rfl (lv_at hl 2 rfl) ?_
    refine lv_iconst (v := 0) hx hb dX6_star_13 (by decide) ?_
    refine lv_bipush (v := 47) hx hb dX6_star_14 (by decide) ?_
    refine kc_i (kr_S (As := [.int ph, .int 0, .int 47]) (rest := []) hx hb hml hown hG (c_X6_isOutside l D cy ph 0 47) cf_X6_isOutside wM_X6_34 trivial ⟨rfl, rfl, by decide, by decide⟩ rfl rfl (Nat.le_of_ble_eq_true rfl) ⟨Nat.le_of_ble_eq_true rfl, Nat.le_of_ble_eq_true rfl⟩ dX6_star_16) ?_
    refine lv_if_ne (tgt := 32) hx hb dX6_star_19 (by decide) (fun c_19 => ?_) (fun c_19 => ?_)
    · exact k_throw ex_ia wStr_X6_40 hx hb hml hown hlk hlf hG hnx hX hZ dX6_star_32 dX6_star_35 dX6_star_36 dX6_star_38 dX6_star_41 ⟨by decide, by decide, by decide, by decide⟩ ⟨by decide, by decide⟩ (Or.inl ⟨by unfold kStar; rw [if_pos c_9, if_neg c_19], rfl⟩)
    · refine lv_iload_n hx hb dX6_star_22 rfl (lv_at hl 3 rfl) ?_
      refine lv_bipush (v := (-3)) hx hb dX6_star_23 (by decide) ?_
      refine lv_iconst (v := 3) hx hb dX6_star_25 (by decide) ?_
      refine kc_i (kr_S (As := [.int sp, .int (-3), .int 3]) (rest := []) hx hb hml hown hG (c_X6_isOutside l D cy sp (-3) 3) cf_X6_isOutside wM_X6_34 trivial ⟨rfl, rfl, by decide, by decide⟩ rfl rfl (Nat.le_of_ble_eq_true rfl) ⟨Nat.le_of_ble_eq_true rfl, Nat.le_of_ble_eq_true rfl⟩ dX6_star_26) ?_
      refine lv_if_eq (tgt := 42) hx hb dX6_star_29 (by decide) (fun c_29 => ?_) (fun c_29 => ?_)
      · refine lv_iload hx hb dX6_star_42 (lv_at hl 4 rfl) ?_
        refine lv_sipush (v := (-500)) hx hb dX6_star_44 (by decide) ?_
        refine lv_sipush (v := 500) hx hb dX6_star_47 (by decide) ?_
        refine kc_i (kr_S (As := [.int of, .int (-500), .int 500]) (rest := []) hx hb hml hown hG (c_X6_isOutside l D cy of (-500) 500) cf_X6_isOutside wM_X6_34 trivial ⟨rfl, rfl, by decide, by decide⟩ rfl rfl (Nat.le_of_ble_eq_true rfl) ⟨Nat.le_of_ble_eq_true rfl, Nat.le_of_ble_eq_true rfl⟩ dX6_star_50) ?_
        refine lv_if_ne (tgt := 67) hx hb dX6_star_53 (by decide) (fun c_53 => ?_) (fun c_53 => ?_)
        · exact k_throw ex_ia wStr_X6_45 hx hb hml hown hlk hlf hG hnx hX hZ dX6_star_67 dX6_star_70 dX6_star_71 dX6_star_73 dX6_star_76 ⟨by decide, by decide, by decide, by decide⟩ ⟨by decide, by decide⟩ (Or.inl ⟨by unfold kStar; rw [if_pos c_9, if_pos c_19, if_pos c_29, if_neg c_53], rfl⟩)
        · refine lv_iload hx hb dX6_star_56 (lv_at hl 5 rfl) ?_
          refine lv_bipush (v := (-3)) hx hb dX6_star_58 (by decide) ?_
          refine lv_iconst (v := 3) hx hb dX6_star_60 (by decide) ?_
          refine kc_i (kr_S (As := [.int dr, .int (-3), .int 3]) (rest := []) hx hb hml hown hG (c_X6_isOutside l D cy dr (-3) 3) cf_X6_isOutside wM_X6_34 trivial ⟨rfl, rfl, by decide, by decide⟩ rfl rfl (Nat.le_of_ble_eq_true rfl) ⟨Nat.le_of_ble_eq_true rfl, Nat.le_of_ble_eq_true rfl⟩ dX6_star_61) ?_
          refine lv_if_eq (tgt := 77) hx hb dX6_star_64 (by decide) (fun c_64 => ?_) (fun c_64 => ?_)
          · refine lv_aload_n hx hb dX6_star_77 rfl (lv_at hl 0 rfl) ?_
            refine k_get (ci := 6) (C := RX6) (T := TX6) (N := 8) (v := .int (nI ns)) hx hb hown hG rfl kin_X6 hw.o 4 (by decide) wF_X6_47 rfl dX6_star_78 ?_
            refine lv_bipush (v := 8) hx hb dX6_star_81 (by decide) ?_
            refine lv_icmp_lt (tgt := 96) hx hb dX6_star_83 (by decide) (fun c_83 => ?_) (fun c_83 => ?_)
            · have hroom9 : ns < 8 := (nI_ltI (by have := hL.1; omega) (by omega)).mp c_83
              refine lv_aload_n hx hb dX6_star_96 rfl (lv_at hl 0 rfl) ?_
              refine k_get (ci := 6) (C := RX6) (T := TX6) (N := 8) (v := .ref (ad 7)) hx hb hown hG rfl kin_X6 hw.o 0 (by decide) wF_X6_11 rfl dX6_star_97 ?_
              refine lv_aload_n hx hb dX6_star_100 rfl (lv_at hl 0 rfl) ?_
              refine k_get (ci := 6) (C := RX6) (T := TX6) (N := 8) (v := .int (nI ns)) hx hb hown hG rfl kin_X6 hw.o 4 (by decide) wF_X6_47 rfl dX6_star_101 ?_
              refine k_new (q0 := w9) (ci := 3) (C := RX3) (T := TX3) (N := 11) (fs := (stF (fun _ => 0))) hx hb hown hG hS hsz rfl kin_X3 tyX3 tyX3_ok wC_X6_9 wI_X3 wIni_X3 df3 (Nat.le_of_ble_eq_true rfl) (Nat.le_of_ble_eq_true rfl) dX6_star_104 (fun H1 hP1 z1 o1 hS => ?_)
              have hlt9 : ∀ q, CA ad ns nt nr q → q < w9 := fun q h => by obtain ⟨k, hk, rfl⟩ := h; exact hsz ▸ hw.lt hL hk
              have hw := hw.keep (A := fun _ => False) (fun q h _ => o1 q (by rw [hsz] at h; exact h)) (fun _ _ h => h)
              have hq := hP1
              have hsz := z1
              refine lv_dup hx hb dX6_star_107 rfl ?_
              refine lv_iload_n hx hb dX6_star_108 rfl (lv_at hl 1 rfl) ?_
              refine lv_iload_n hx hb dX6_star_109 rfl (lv_at hl 2 rfl) ?_
              refine lv_iload_n hx hb dX6_star_110 rfl (lv_at hl 3 rfl) ?_
              refine lv_iload hx hb dX6_star_111 (lv_at hl 4 rfl) ?_
              refine lv_iload hx hb dX6_star_113 (lv_at hl 5 rfl) ?_
              refine kc_uv (kr_IN (b := w9) (As := [.int ra, .int ph, .int sp, .int of, .int dr]) (rest := [.ref w9, .int (nI ns), .ref (ad 7)]) hx hb hml hown hG (c_X3_init l D cy w9 ra ph sp of dr (w9 + 1)) (PC.preS hG ⟨hq, hsz⟩) cf_X3_init wMN_X6_56 ⟨rfl, rfl, by decide, by decide⟩ rfl rfl (Nat.le_of_ble_eq_true rfl) ⟨Nat.le_of_ble_eq_true rfl, Nat.le_of_ble_eq_true rfl⟩ dX6_star_115) hS (fun q h => Or.inr (by omega)) (fun H1 locs hp1 z1 oq1 hS => ?_)
              have hw := hw.keep oq1 (fun q h => by have := hlt9 q h; omega)
              have hsz := hp1.2
              have hq := hp1.1
              refine k_astq (ci := 3) (C := RX3) (T := TX3) (N := 11) hx hb hG 1 rfl rfl hw.a7 hq hS (Or.inl (CA.of (Or.inl (by omega)))) (vp_in_nI (n := ns) hroom9 (by decide)) dX6_star_118 (fun H1 locs hP1 z1 oq1 hS => ?_)
              rw [nI_clamp (by omega)] at hP1
              have h7 := hP1
              have hwz : ∀ k e, k ≠ 7 → cC cy ad ns nt nr M V k = some e → va_P D vwCl [(ad k, e)] H1 := fun k e h1 h2 => kP_keep (hw k e h2) oq1 (fun q => h1 (hA _ _ (cC_live h2) (Or.inl (by omega)) q))
              have ho := hwz 0 _ (by decide) (by unfold cC; rw [if_pos rfl])
              have hq := kP_keep hq oq1 (fun q => absurd (hlt9 _ (CA.of (Or.inl (by omega : 7 < 10)))) (by omega))
              refine lv_aload_n hx hb dX6_star_119 rfl (lv_at hl 0 rfl) ?_
              refine lv_dup hx hb dX6_star_120 rfl ?_
              refine k_get (ci := 6) (C := RX6) (T := TX6) (N := 8) (v := .int (nI ns)) hx hb hown hG rfl kin_X6 ho 4 (by decide) wF_X6_47 rfl dX6_star_121 ?_
              refine lv_iconst (v := 1) hx hb dX6_star_124 (by decide) ?_
              refine lv_iadd hx hb dX6_star_125 ?_
              refine k_put (ci := 6) (C := RX6) (T := TX6) (N := 8) (v := .int ((nI ns) + 1)) hx hb hown hG rfl kin_X6 tyX6 tyX6_ok nmX6 ho hS (Or.inl (CA.of LV.k0)) 4 (by decide) wF_X6_47 rfl rfl rfl (Nat.le_of_ble_eq_true rfl) dX6_star_126 (fun H1 locs hP1 z1 oq1 hS => ?_)
              have ho : va_P D vwCl [(ad 0, .inr (6, [.ref (ad 7), .ref (ad 8), .ref (ad 9), .ref (ad 1), .int (nI (ns + 1)), .int (nI nt), .int (nI nr), .int (M 0 0)]))] H1 := by rw [← nI_succ] at hP1; exact hP1
              have hwz : ∀ k e, k ≠ 0 → k ≠ 7 → cC cy ad ns nt nr M V k = some e → va_P D vwCl [(ad k, e)] H1 := fun k e h0 h1 h2 => kP_keep (hwz k e h1 h2) oq1 (fun q => h0 (hA _ _ (cC_live h2) (Or.inl (by omega)) q))
              have h7 := kP_keep h7 oq1 (fun q => absurd (hA _ _ (Or.inl (by omega)) (Or.inl (by omega)) q) (by omega))
              have hq := kP_keep hq oq1 (fun q => absurd (hlt9 _ (CA.of (Or.inl (by omega : 0 < 10)))) (by omega))
              refine lv_aload_n hx hb dX6_star_129 rfl (lv_at hl 0 rfl) ?_
              refine k_get (ci := 6) (C := RX6) (T := TX6) (N := 8) (v := .int (nI (ns + 1))) hx hb hown hG rfl kin_X6 ho 4 (by decide) wF_X6_47 rfl dX6_star_130 ?_
              refine lv_iconst (v := 1) hx hb dX6_star_133 (by decide) ?_
              refine lv_isub hx hb dX6_star_134 ?_
              exact kx (Nat.le_of_ble_eq_true rfl) (Nat.le_of_ble_eq_true rfl) (ke_ui hx hb hr hlk hS dX6_star_135 ⟨by unfold kStar; rw [if_pos c_9, if_pos c_19, if_pos c_29, if_pos c_53, if_pos c_64, if_pos c_83], hroom9, nI_pred _, CW.addSt hL hroom9 hlt9 hwz ho h7 hq⟩)
            · exact k_throw ex_is wStr_X6_53 hx hb hml hown hlk hlf hG hnx hX hZ dX6_star_86 dX6_star_89 dX6_star_90 dX6_star_92 dX6_star_95 ⟨by decide, by decide, by decide, by decide⟩ ⟨by decide, by decide⟩ (Or.inr ⟨by unfold kStar; rw [if_pos c_9, if_pos c_19, if_pos c_29, if_pos c_53, if_pos c_64, if_neg c_83], rfl⟩)
          · exact k_throw ex_ia wStr_X6_45 hx hb hml hown hlk hlf hG hnx hX hZ dX6_star_67 dX6_star_70 dX6_star_71 dX6_star_73 dX6_star_76 ⟨by decide, by decide, by decide, by decide⟩ ⟨by decide, by decide⟩ (Or.inl ⟨by unfold kStar; rw [if_pos c_9, if_pos c_19, if_pos c_29, if_pos c_53, if_neg c_64], rfl⟩)
      · exact k_throw ex_ia wStr_X6_40 hx hb hml hown hlk hlf hG hnx hX hZ dX6_star_32 dX6_star_35 dX6_star_36 dX6_star_38 dX6_star_41 ⟨by decide, by decide, by decide, by decide⟩ ⟨by decide, by decide⟩ (Or.inl ⟨by unfold kStar; rw [if_pos c_9, if_pos c_19, if_neg c_29], rfl⟩)
set_option maxHeartbeats 4000000 in
set_option maxRecDepth 100000 in
theorem c_X6_station (l : Launch) (hlf : l.stackTraces = false) (D : va_G) (cy : Nat → ClassId) (ad : Nat → Nat) (ns nt nr : Nat) (hL : LB ns nt nr) (M : Nat → Nat → Int32) (V : SX) (hA : AI ad ns nt nr) (x d : Int32) (w9 : Nat) : vx_Met l yX6_station [.code yX6_station cX6_station 3 (some .int)] ({ frames := 6, cells := 1, slots := 6, locals := 82 } : Room) (PX2 D cy [.ref (ad 0), .int x, .int d] (fun H => CW D cy ad ns nt nr M V H ∧ H.size = w9)) (UQi (fun q => CA ad ns nt nr q ∨ w9 ≤ q) (fun r H => kStn nt x d = 0 ∧ nt < 3 ∧ r = nI nt ∧ CW D cy (adA ad (20 + nt) w9) ns (nt + 1) nr (mset M (20 + nt) (snNew x d)) V H)) (XQ (errP (kStn nt x d) EIA EIS)) 1 6 (fun q => CA ad ns nt nr q ∨ w9 ≤ q) := by
  refine k_bodyX2 (by decide +kernel) (Nat.le_of_ble_eq_true rfl) ?_
  intro p e s m below meth c ls hx hb hml hown hr hlk hmn hl hG hI hnx hX hZ hAW
  have hml9 : c.maxLocals = 3 := hml.trans hl.1
  have hl : lv_has ls 3 [(0, .ref (ad 0)), (1, .int x), (2, .int d)] := hl
  obtain ⟨hw, hsz⟩ := hI
  have hS : va_S (fun q => CA ad ns nt nr q ∨ w9 ≤ q) s.heap s.heap [] := va_S.rf
  refine lv_iload_n hx hb dX6_station_0 rfl (lv_at hl 1 rfl) ?_
  refine lv_bipush (v := (-50)) hx hb dX6_station_1 (by decide) ?_
  refine lv_bipush (v := 50) hx hb dX6_station_3 (by decide) ?_
  refine kc_i (kr_S (As := [.int x, .int (-50), .int 50]) (rest := []) hx hb hml hown hG (c_X6_isOutside l D cy x (-50) 50) cf_X6_isOutside wM_X6_34 trivial ⟨rfl, rfl, by decide, by decide⟩ rfl rfl (Nat.le_of_ble_eq_true rfl) ⟨Nat.le_of_ble_eq_true rfl, Nat.le_of_ble_eq_true rfl⟩ dX6_station_5) ?_
  refine lv_if_ne (tgt := 21) hx hb dX6_station_8 (by decide) (fun c_8 => ?_) (fun c_8 => ?_)
  · exact k_throw ex_ia wStr_X6_93 hx hb hml hown hlk hlf hG hnx hX hZ dX6_station_21 dX6_station_24 dX6_station_25 dX6_station_27 dX6_station_30 ⟨by decide, by decide, by decide, by decide⟩ ⟨by decide, by decide⟩ (Or.inl ⟨by unfold kStn; rw [if_neg c_8], rfl⟩)
  · refine lv_iload_n hx hb dX6_station_11 rfl (lv_at hl 2 rfl) ?_
    refine lv_iconst (v := 0) hx hb dX6_station_12 (by decide) ?_
    refine lv_bipush (v := 9) hx hb dX6_station_13 (by decide) ?_
    refine kc_i (kr_S (As := [.int d, .int 0, .int 9]) (rest := []) hx hb hml hown hG (c_X6_isOutside l D cy d 0 9) cf_X6_isOutside wM_X6_34 trivial ⟨rfl, rfl, by decide, by decide⟩ rfl rfl (Nat.le_of_ble_eq_true rfl) ⟨Nat.le_of_ble_eq_true rfl, Nat.le_of_ble_eq_true rfl⟩ dX6_station_15) ?_
    refine lv_if_eq (tgt := 31) hx hb dX6_station_18 (by decide) (fun c_18 => ?_) (fun c_18 => ?_)
    · refine lv_aload_n hx hb dX6_station_31 rfl (lv_at hl 0 rfl) ?_
      refine k_get (ci := 6) (C := RX6) (T := TX6) (N := 8) (v := .int (nI nt)) hx hb hown hG rfl kin_X6 hw.o 5 (by decide) wF_X6_95 rfl dX6_station_32 ?_
      refine lv_iconst (v := 3) hx hb dX6_station_35 (by decide) ?_
      refine lv_icmp_lt (tgt := 49) hx hb dX6_station_36 (by decide) (fun c_36 => ?_) (fun c_36 => ?_)
      · have hroom9 : nt < 3 := (nI_ltI (by have := hL.2.1; omega) (by omega)).mp c_36
        refine lv_aload_n hx hb dX6_station_49 rfl (lv_at hl 0 rfl) ?_
        refine k_get (ci := 6) (C := RX6) (T := TX6) (N := 8) (v := .ref (ad 8)) hx hb hown hG rfl kin_X6 hw.o 1 (by decide) wF_X6_17 rfl dX6_station_50 ?_
        refine lv_aload_n hx hb dX6_station_53 rfl (lv_at hl 0 rfl) ?_
        refine k_get (ci := 6) (C := RX6) (T := TX6) (N := 8) (v := .int (nI nt)) hx hb hown hG rfl kin_X6 hw.o 5 (by decide) wF_X6_95 rfl dX6_station_54 ?_
        refine k_new (q0 := w9) (ci := 4) (C := RX4) (T := TX4) (N := 2) (fs := (snF (fun _ => 0))) hx hb hown hG hS hsz rfl kin_X4 tyX4 tyX4_ok wC_X6_15 wI_X4 wIni_X4 df4 (Nat.le_of_ble_eq_true rfl) (Nat.le_of_ble_eq_true rfl) dX6_station_57 (fun H1 hP1 z1 o1 hS => ?_)
        have hlt9 : ∀ q, CA ad ns nt nr q → q < w9 := fun q h => by obtain ⟨k, hk, rfl⟩ := h; exact hsz ▸ hw.lt hL hk
        have hw := hw.keep (A := fun _ => False) (fun q h _ => o1 q (by rw [hsz] at h; exact h)) (fun _ _ h => h)
        have hq := hP1
        have hsz := z1
        refine lv_dup hx hb dX6_station_60 rfl ?_
        refine lv_iload_n hx hb dX6_station_61 rfl (lv_at hl 1 rfl) ?_
        refine lv_iload_n hx hb dX6_station_62 rfl (lv_at hl 2 rfl) ?_
        refine kc_uv (kr_IN (b := w9) (As := [.int x, .int d]) (rest := [.ref w9, .int (nI nt), .ref (ad 8)]) hx hb hml hown hG (c_X4_init l D cy w9 x d (w9 + 1)) (PC.preS hG ⟨hq, hsz⟩) cf_X4_init wMN_X6_100 ⟨rfl, rfl, by decide, by decide⟩ rfl rfl (Nat.le_of_ble_eq_true rfl) ⟨Nat.le_of_ble_eq_true rfl, Nat.le_of_ble_eq_true rfl⟩ dX6_station_63) hS (fun q h => Or.inr (by omega)) (fun H1 locs hp1 z1 oq1 hS => ?_)
        have hw := hw.keep oq1 (fun q h => by have := hlt9 q h; omega)
        have hsz := hp1.2
        have hq := hp1.1
        refine k_astq (ci := 4) (C := RX4) (T := TX4) (N := 2) hx hb hG 2 rfl rfl hw.a8 hq hS (Or.inl (CA.of (Or.inl (by omega)))) (vp_in_nI (n := nt) hroom9 (by decide)) dX6_station_66 (fun H1 locs hP1 z1 oq1 hS => ?_)
        rw [nI_clamp (by omega)] at hP1
        have h7 := hP1
        have hwz : ∀ k e, k ≠ 8 → cC cy ad ns nt nr M V k = some e → va_P D vwCl [(ad k, e)] H1 := fun k e h1 h2 => kP_keep (hw k e h2) oq1 (fun q => h1 (hA _ _ (cC_live h2) (Or.inl (by omega)) q))
        have ho := hwz 0 _ (by decide) (by unfold cC; rw [if_pos rfl])
        have hq := kP_keep hq oq1 (fun q => absurd (hlt9 _ (CA.of (Or.inl (by omega : 8 < 10)))) (by omega))
        refine lv_aload_n hx hb dX6_station_67 rfl (lv_at hl 0 rfl) ?_
        refine lv_dup hx hb dX6_station_68 rfl ?_
        refine k_get (ci := 6) (C := RX6) (T := TX6) (N := 8) (v := .int (nI nt)) hx hb hown hG rfl kin_X6 ho 5 (by decide) wF_X6_95 rfl dX6_station_69 ?_
        refine lv_iconst (v := 1) hx hb dX6_station_72 (by decide) ?_
        refine lv_iadd hx hb dX6_station_73 ?_
        refine k_put (ci := 6) (C := RX6) (T := TX6) (N := 8) (v := .int ((nI nt) + 1)) hx hb hown hG rfl kin_X6 tyX6 tyX6_ok nmX6 ho hS (Or.inl (CA.of LV.k0)) 5 (by decide) wF_X6_95 rfl rfl rfl (Nat.le_of_ble_eq_true rfl) dX6_station_74 (fun H1 locs hP1 z1 oq1 hS => ?_)
        have ho : va_P D vwCl [(ad 0, .inr (6, [.ref (ad 7), .ref (ad 8), .ref (ad 9), .ref (ad 1), .int (nI ns), .int (nI (nt + 1)), .int (nI nr), .int (M 0 0)]))] H1 := by rw [← nI_succ] at hP1; exact hP1
        have hwz : ∀ k e, k ≠ 0 → k ≠ 8 → cC cy ad ns nt nr M V k = some e → va_P D vwCl [(ad k, e)] H1 := fun k e h0 h1 h2 => kP_keep (hwz k e h1 h2) oq1 (fun q => h0 (hA _ _ (cC_live h2) (Or.inl (by omega)) q))
        have h7 := kP_keep h7 oq1 (fun q => absurd (hA _ _ (Or.inl (by omega)) (Or.inl (by omega)) q) (by omega))
        have hq := kP_keep hq oq1 (fun q => absurd (hlt9 _ (CA.of (Or.inl (by omega : 0 < 10)))) (by omega))
        refine lv_aload_n hx hb dX6_station_77 rfl (lv_at hl 0 rfl) ?_
        refine k_get (ci := 6) (C := RX6) (T := TX6) (N := 8) (v := .int (nI (nt + 1))) hx hb hown hG rfl kin_X6 ho 5 (by decide) wF_X6_95 rfl dX6_station_78 ?_
        refine lv_iconst (v := 1) hx hb dX6_station_81 (by decide) ?_
        refine lv_isub hx hb dX6_station_82 ?_
        exact kx (Nat.le_of_ble_eq_true rfl) (Nat.le_of_ble_eq_true rfl) (ke_ui hx hb hr hlk hS dX6_station_83 ⟨by unfold kStn; rw [if_pos c_8, if_pos c_18, if_pos c_36], hroom9, nI_pred _, CW.addSn hL hroom9 hlt9 hwz ho h7 hq⟩)
      · exact k_throw ex_is wStr_X6_98 hx hb hml hown hlk hlf hG hnx hX hZ dX6_station_39 dX6_station_42 dX6_station_43 dX6_station_45 dX6_station_48 ⟨by decide, by decide, by decide, by decide⟩ ⟨by decide, by decide⟩ (Or.inr ⟨by unfold kStn; rw [if_pos c_8, if_pos c_18, if_neg c_36], rfl⟩)
    · exact k_throw ex_ia wStr_X6_93 hx hb hml hown hlk hlf hG hnx hX hZ dX6_station_21 dX6_station_24 dX6_station_25 dX6_station_27 dX6_station_30 ⟨by decide, by decide, by decide, by decide⟩ ⟨by decide, by decide⟩ (Or.inl ⟨by unfold kStn; rw [if_pos c_8, if_neg c_18], rfl⟩)
set_option maxHeartbeats 4000000 in
set_option maxRecDepth 100000 in
theorem c_X6_receiver (l : Launch) (hlf : l.stackTraces = false) (D : va_G) (cy : Nat → ClassId) (ad : Nat → Nat) (ns nt nr : Nat) (hL : LB ns nt nr) (M : Nat → Nat → Int32) (V : SX) (hA : AI ad ns nt nr) (x y b : Int32) (w9 : Nat) : vx_Met l yX6_receiver [.code yX6_receiver cX6_receiver 4 (some .int)] ({ frames := 6, cells := 11, slots := 122, locals := 82 } : Room) (PX2 D cy [.ref (ad 0), .int x, .int y, .int b] (fun H => CW D cy ad ns nt nr M V H ∧ H.size = w9)) (UQi (fun q => CA ad ns nt nr q ∨ w9 ≤ q) (fun r H => kRec nr x y b = 0 ∧ nr < 3 ∧ r = nI nr ∧ CW D cy (adR ad nr w9) ns nt (nr + 1) (pNewR M nr (vNew (nI nr) x y b)) V H)) (XQ (errP (kRec nr x y b) EIA EIS)) 11 122 (fun q => CA ad ns nt nr q ∨ w9 ≤ q) := by
  refine k_bodyX2 (by decide +kernel) (Nat.le_of_ble_eq_true rfl) ?_
  intro p e s m below meth c ls hx hb hml hown hr hlk hmn hl hG hI hnx hX hZ hAW
  have hml9 : c.maxLocals = 4 := hml.trans hl.1
  have hl : lv_has ls 4 [(0, .ref (ad 0)), (1, .int x), (2, .int y), (3, .int b)] := hl
  obtain ⟨hw, hsz⟩ := hI
  have hS : va_S (fun q => CA ad ns nt nr q ∨ w9 ≤ q) s.heap s.heap [] := va_S.rf
  refine lv_iload_n hx hb dX6_receiver_0 rfl (lv_at hl 1 rfl) ?_
  refine lv_iload_n hx hb dX6_receiver_1 rfl (lv_at hl 2 rfl) ?_
  refine kc_i (kr_S (As := [.int x, .int y]) (rest := []) hx hb hml hown hG (c_X6_isNoPlace l D cy x y) cf_X6_isNoPlace wM_X6_126 trivial ⟨rfl, rfl, by decide, by decide⟩ rfl rfl (Nat.le_of_ble_eq_true rfl) ⟨Nat.le_of_ble_eq_true rfl, Nat.le_of_ble_eq_true rfl⟩ dX6_receiver_2) ?_
  refine lv_if_ne (tgt := 19) hx hb dX6_receiver_5 (by decide) (fun c_5 => ?_) (fun c_5 => ?_)
  · exact k_throw ex_ia wStr_X6_130 hx hb hml hown hlk hlf hG hnx hX hZ dX6_receiver_19 dX6_receiver_22 dX6_receiver_23 dX6_receiver_25 dX6_receiver_28 ⟨by decide, by decide, by decide, by decide⟩ ⟨by decide, by decide⟩ (Or.inl ⟨by unfold kRec; rw [if_neg c_5], rfl⟩)
  · refine lv_iload_n hx hb dX6_receiver_8 rfl (lv_at hl 3 rfl) ?_
    refine lv_bipush (v := (-99)) hx hb dX6_receiver_9 (by decide) ?_
    refine lv_bipush (v := 99) hx hb dX6_receiver_11 (by decide) ?_
    refine kc_i (kr_S (As := [.int b, .int (-99), .int 99]) (rest := []) hx hb hml hown hG (c_X6_isOutside l D cy b (-99) 99) cf_X6_isOutside wM_X6_34 trivial ⟨rfl, rfl, by decide, by decide⟩ rfl rfl (Nat.le_of_ble_eq_true rfl) ⟨Nat.le_of_ble_eq_true rfl, Nat.le_of_ble_eq_true rfl⟩ dX6_receiver_13) ?_
    refine lv_if_eq (tgt := 29) hx hb dX6_receiver_16 (by decide) (fun c_16 => ?_) (fun c_16 => ?_)
    · refine lv_aload_n hx hb dX6_receiver_29 rfl (lv_at hl 0 rfl) ?_
      refine k_get (ci := 6) (C := RX6) (T := TX6) (N := 8) (v := .int (nI nr)) hx hb hown hG rfl kin_X6 hw.o 6 (by decide) wF_X6_132 rfl dX6_receiver_30 ?_
      refine lv_iconst (v := 3) hx hb dX6_receiver_33 (by decide) ?_
      refine lv_icmp_lt (tgt := 47) hx hb dX6_receiver_34 (by decide) (fun c_34 => ?_) (fun c_34 => ?_)
      · have hroom9 : nr < 3 := (nI_ltI (by have := hL.2.2; omega) (by omega)).mp c_34
        refine lv_aload_n hx hb dX6_receiver_47 rfl (lv_at hl 0 rfl) ?_
        refine k_get (ci := 6) (C := RX6) (T := TX6) (N := 8) (v := .ref (ad 9)) hx hb hown hG rfl kin_X6 hw.o 2 (by decide) wF_X6_23 rfl dX6_receiver_48 ?_
        refine lv_aload_n hx hb dX6_receiver_51 rfl (lv_at hl 0 rfl) ?_
        refine k_get (ci := 6) (C := RX6) (T := TX6) (N := 8) (v := .int (nI nr)) hx hb hown hG rfl kin_X6 hw.o 6 (by decide) wF_X6_132 rfl dX6_receiver_52 ?_
        refine k_new (q0 := w9) (ci := 0) (C := RX0) (T := TX0) (N := 13) (fs := rc0) hx hb hown hG hS hsz rfl kin_X0 tyX0 tyX0_ok wC_X6_21 wI_X0 wIni_X0 df0 (Nat.le_of_ble_eq_true rfl) (Nat.le_of_ble_eq_true rfl) dX6_receiver_55 (fun H1 hP1 z1 o1 hS => ?_)
        have hlt9 : ∀ q, CA ad ns nt nr q → q < w9 := fun q h => by obtain ⟨k, hk, rfl⟩ := h; exact hsz ▸ hw.lt hL hk
        have hw := hw.keep (A := fun _ => False) (fun q h _ => o1 q (by rw [hsz] at h; exact h)) (fun _ _ h => h)
        have hq := hP1
        have hsz := z1
        refine lv_dup hx hb dX6_receiver_58 rfl ?_
        refine lv_aload_n hx hb dX6_receiver_59 rfl (lv_at hl 0 rfl) ?_
        refine k_get (ci := 6) (C := RX6) (T := TX6) (N := 8) (v := .int (nI nr)) hx hb hown hG rfl kin_X6 hw.o 6 (by decide) wF_X6_132 rfl dX6_receiver_60 ?_
        refine lv_iload_n hx hb dX6_receiver_63 rfl (lv_at hl 1 rfl) ?_
        refine lv_iload_n hx hb dX6_receiver_64 rfl (lv_at hl 2 rfl) ?_
        refine lv_iload_n hx hb dX6_receiver_65 rfl (lv_at hl 3 rfl) ?_
        refine kc_uv (kr_IN (b := w9) (As := [.int (nI nr), .int x, .int y, .int b]) (rest := [.ref w9, .int (nI nr), .ref (ad 9)]) hx hb hml hown hG (c_X0_init l D cy w9 (nI nr) x y b (w9 + 1)) (PA.preS hG hAW ⟨⟨hq, by omega⟩, hsz⟩) cf_X0_init wMN_X6_137 ⟨rfl, rfl, by decide, by decide⟩ rfl rfl (Nat.le_of_ble_eq_true rfl) ⟨Nat.le_of_ble_eq_true rfl, Nat.le_of_ble_eq_true rfl⟩ dX6_receiver_66) hS (fun q h => Or.inr (by omega)) (fun H1 locs hp1 z1 oq1 hS => ?_)
        have hw := hw.keep oq1 (fun q h => by have := hlt9 q h; omega)
        have hbun : RB D cy w9 (vNew (nI nr) x y b) H1 := hp1.1
        refine k_astq (ci := 0) (C := RX0) (T := TX0) (N := 13) hx hb hG 3 rfl rfl hw.a9 hbun.1 hS (Or.inl (CA.of (Or.inl (by omega)))) (vp_in_nI (n := nr) hroom9 (by decide)) dX6_receiver_69 (fun H1 locs hP1 z1 oq1 hS => ?_)
        rw [nI_clamp (by omega)] at hP1
        have h7 := hP1
        have hwz : ∀ k e, k ≠ 9 → cC cy ad ns nt nr M V k = some e → va_P D vwCl [(ad k, e)] H1 := fun k e h1 h2 => kP_keep (hw k e h2) oq1 (fun q => h1 (hA _ _ (cC_live h2) (Or.inl (by omega)) q))
        have ho := hwz 0 _ (by decide) (by unfold cC; rw [if_pos rfl])
        have hbun := hbun.keepq oq1 (fun q h => by have := hlt9 (ad 9) (CA.of (Or.inl (by omega))); omega)
        refine lv_aload_n hx hb dX6_receiver_70 rfl (lv_at hl 0 rfl) ?_
        refine lv_dup hx hb dX6_receiver_71 rfl ?_
        refine k_get (ci := 6) (C := RX6) (T := TX6) (N := 8) (v := .int (nI nr)) hx hb hown hG rfl kin_X6 ho 6 (by decide) wF_X6_132 rfl dX6_receiver_72 ?_
        refine lv_iconst (v := 1) hx hb dX6_receiver_75 (by decide) ?_
        refine lv_iadd hx hb dX6_receiver_76 ?_
        refine k_put (ci := 6) (C := RX6) (T := TX6) (N := 8) (v := .int ((nI nr) + 1)) hx hb hown hG rfl kin_X6 tyX6 tyX6_ok nmX6 ho hS (Or.inl (CA.of LV.k0)) 6 (by decide) wF_X6_132 rfl rfl rfl (Nat.le_of_ble_eq_true rfl) dX6_receiver_77 (fun H1 locs hP1 z1 oq1 hS => ?_)
        have ho : va_P D vwCl [(ad 0, .inr (6, [.ref (ad 7), .ref (ad 8), .ref (ad 9), .ref (ad 1), .int (nI ns), .int (nI nt), .int (nI (nr + 1)), .int (M 0 0)]))] H1 := by rw [← nI_succ] at hP1; exact hP1
        have hwz : ∀ k e, k ≠ 0 → k ≠ 9 → cC cy ad ns nt nr M V k = some e → va_P D vwCl [(ad k, e)] H1 := fun k e h0 h1 h2 => kP_keep (hwz k e h1 h2) oq1 (fun q => h0 (hA _ _ (cC_live h2) (Or.inl (by omega)) q))
        have h7 := kP_keep h7 oq1 (fun q => absurd (hA _ _ (Or.inl (by omega)) (Or.inl (by omega)) q) (by omega))
        have hbun := hbun.keepq oq1 (fun q h => by have := hlt9 (ad 0) (CA.of (Or.inl (by omega))); omega)
        refine lv_aload_n hx hb dX6_receiver_80 rfl (lv_at hl 0 rfl) ?_
        refine k_get (ci := 6) (C := RX6) (T := TX6) (N := 8) (v := .int (nI (nr + 1))) hx hb hown hG rfl kin_X6 ho 6 (by decide) wF_X6_132 rfl dX6_receiver_81 ?_
        refine lv_iconst (v := 1) hx hb dX6_receiver_84 (by decide) ?_
        refine lv_isub hx hb dX6_receiver_85 ?_
        exact kx (Nat.le_of_ble_eq_true rfl) (Nat.le_of_ble_eq_true rfl) (ke_ui hx hb hr hlk hS dX6_receiver_86 ⟨by unfold kRec; rw [if_pos c_5, if_pos c_16, if_pos c_34], hroom9, nI_pred _, CW.addRc hL hroom9 hwz ho h7 hbun⟩)
      · exact k_throw ex_is wStr_X6_135 hx hb hml hown hlk hlf hG hnx hX hZ dX6_receiver_37 dX6_receiver_40 dX6_receiver_41 dX6_receiver_43 dX6_receiver_46 ⟨by decide, by decide, by decide, by decide⟩ ⟨by decide, by decide⟩ (Or.inr ⟨by unfold kRec; rw [if_pos c_5, if_pos c_16, if_neg c_34], rfl⟩)
    · exact k_throw ex_ia wStr_X6_130 hx hb hml hown hlk hlf hG hnx hX hZ dX6_receiver_19 dX6_receiver_22 dX6_receiver_23 dX6_receiver_25 dX6_receiver_28 ⟨by decide, by decide, by decide, by decide⟩ ⟨by decide, by decide⟩ (Or.inl ⟨by unfold kRec; rw [if_pos c_5, if_neg c_16], rfl⟩)
set_option maxHeartbeats 4000000 in
set_option maxRecDepth 100000 in
theorem c_X5_meanOfErrors (l : Launch) (D : va_G) (cy : Nat → ClassId) (a : Nat) (t : Nat → Int32) : Met l yX5_meanOfErrors [.code yX5_meanOfErrors cX5_meanOfErrors 1 (some .double)] ({ frames := 0, cells := 0, slots := 0, locals := 0 } : Room) (PC D cy [.ref a] (fun H => va_P D vwCl [(a, .inr (5, trF t))] H)) (RQd (pMean t)) 0 0 (fun _ => False) := by
  refine k_body (by decide +kernel) (Nat.le_of_ble_eq_true rfl) ?_
  intro p e s m below meth c ls hx hb hml hown hr hlk hmn hl hG hI
  have hml9 : c.maxLocals = 1 := hml.trans hl.1
  have hl : lv_has ls 1 [(0, .ref a)] := hl
  refine lv_aload_n hx hb dX5_meanOfErrors_0 rfl (lv_at hl 0 rfl) ?_
  refine k_get (ci := 5) (C := RX5) (T := TX5) (N := 13) (v := .int (t 3)) hx hb hown hG rfl kin_X5 hI 3 (by decide) wF_X5_68 rfl dX5_meanOfErrors_1 ?_
  refine lv_if_ne (tgt := 11) hx hb dX5_meanOfErrors_4 (by decide) (fun c_4 => ?_) (fun c_4 => ?_)
  · refine lv_aload_n hx hb dX5_meanOfErrors_11 rfl (lv_at hl 0 rfl) ?_
    refine k_get (ci := 5) (C := RX5) (T := TX5) (N := 13) (v := .int (t 4)) hx hb hown hG rfl kin_X5 hI 4 (by decide) wF_X5_75 rfl dX5_meanOfErrors_12 ?_
    refine lv_i2d hx hb dX5_meanOfErrors_15 ?_
    refine lv_aload_n hx hb dX5_meanOfErrors_16 rfl (lv_at hl 0 rfl) ?_
    refine k_get (ci := 5) (C := RX5) (T := TX5) (N := 13) (v := .int (t 3)) hx hb hown hG rfl kin_X5 hI 3 (by decide) wF_X5_68 rfl dX5_meanOfErrors_17 ?_
    refine lv_i2d hx hb dX5_meanOfErrors_20 ?_
    refine lv_ddiv hx hb dX5_meanOfErrors_21 (ddiv_n64 _ _ c_4) ?_
    exact ke_d hx hb hr hlk dX5_meanOfErrors_22 (by unfold pMean; rw [if_neg c_4])
  · refine lv_dconst0 hx hb dX5_meanOfErrors_7 ?_
    refine lv_goto (tgt := 22) hx hb dX5_meanOfErrors_8 (by decide) ?_
    exact ke_d hx hb hr hlk dX5_meanOfErrors_22 (by unfold pMean; rw [if_pos c_4])
set_option maxHeartbeats 4000000 in
set_option maxRecDepth 100000 in
theorem c_X6_meanError (l : Launch) (hlf : l.stackTraces = false) (D : va_G) (cy : Nat → ClassId) (ad : Nat → Nat) (ns nt nr : Nat) (hL : LB ns nt nr) (M : Nat → Nat → Int32) (V : SX) (hA : AI ad ns nt nr) (x : Int32) : vx_Met l yX6_meanError [.code yX6_meanError cX6_meanError 2 (some .double)] ({ frames := 6, cells := 1, slots := 6, locals := 82 } : Room) (PX D cy [.ref (ad 0), .int x] (fun H => CW D cy ad ns nt nr M V H)) (UQd (CA ad ns nt nr) (fun r H => kOne nr x = 0 ∧ ∃ i, i < nr ∧ x = nI i ∧ r = pMean (M (50 + i)) ∧ CW D cy ad ns nt nr M V H)) (XQ (errP (kOne nr x) EIB EIB)) 1 6 (CA ad ns nt nr) := by
  refine k_bodyX (by decide +kernel) (Nat.le_of_ble_eq_true rfl) ?_
  intro p e s m below meth c ls hx hb hml hown hr hlk hmn hl hG hI hnx hX hZ
  have hml9 : c.maxLocals = 2 := hml.trans hl.1
  have hl : lv_has ls 2 [(0, .ref (ad 0)), (1, .int x)] := hl
  have hS : va_S (CA ad ns nt nr) s.heap s.heap [] := va_S.rf
  have hw := hI
  refine lv_aload_n hx hb dX6_meanError_0 rfl (lv_at hl 0 rfl) ?_
  refine lv_iload_n hx hb dX6_meanError_1 rfl (lv_at hl 1 rfl) ?_
  refine kc_i (kr_V (As := [.int x]) (rest := []) hx hb hml hown hG (c_X6_isNoReceiver l D cy ad ns nt nr hL M V x) cf_X6_isNoReceiver wM_X6_140 hw.o rfl hw ⟨rfl, rfl, by decide, by decide⟩ rfl rfl (Nat.le_of_ble_eq_true rfl) ⟨Nat.le_of_ble_eq_true rfl, Nat.le_of_ble_eq_true rfl⟩ dX6_meanError_2) ?_
  refine lv_if_eq (tgt := 18) hx hb dX6_meanError_5 (by decide) (fun c_5 => ?_) (fun c_5 => ?_)
  · obtain ⟨i, hi, ei⟩ := pOut_f (Nat.le_trans hL.2.2 (by decide)) c_5
    refine lv_aload_n hx hb dX6_meanError_18 rfl (lv_at hl 0 rfl) ?_
    refine k_get (ci := 6) (C := RX6) (T := TX6) (N := 8) (v := .ref (ad 9)) hx hb hown hG rfl kin_X6 hw.o 2 (by decide) wF_X6_23 rfl dX6_meanError_19 ?_
    refine lv_iload_n hx hb dX6_meanError_22 rfl (lv_at hl 1 rfl) ?_
    refine k_aldq (v := (ad (30 + i))) hx hb hG 3 rfl hw.a9 (by rw [ei]; exact vp_in_nI (n := i) (Nat.lt_of_lt_of_le hi hL.2.2) (by decide)) (by rw [ei]; exact aRc (i := i) hi hL) dX6_meanError_23 ?_
    refine k_getN (ci := 0) (C := RX0) (T := TX0) (N := 13) (v := .ref (ad (50 + i))) hx hb hown hG rfl kin_X0 (hw.rc hL hi) 3 (by decide) wFN_X6_202 rfl dX6_meanError_24 ?_
    refine kc_d (kr_VN (As := []) (rest := []) hx hb hml hown hG (c_X5_meanOfErrors l D cy (ad (50 + i)) (M (50 + i))) cf_X5_meanOfErrors wMN_X6_260 (hw.tk hL hi) rfl (hw.tk hL hi) ⟨rfl, rfl, by decide, by decide⟩ rfl rfl (Nat.le_of_ble_eq_true rfl) ⟨Nat.le_of_ble_eq_true rfl, Nat.le_of_ble_eq_true rfl⟩ dX6_meanError_27) ?_
    exact kx (Nat.zero_le _) (Nat.zero_le _) (ke_ud hx hb hr hlk hS dX6_meanError_30 ⟨by unfold kOne; rw [if_pos c_5], i, hi, ei, rfl, hw⟩)
  · exact k_throw ex_ib wStr_X6_143 hx hb hml hown hlk hlf hG hnx hX hZ dX6_meanError_8 dX6_meanError_11 dX6_meanError_12 dX6_meanError_14 dX6_meanError_17 ⟨by decide, by decide, by decide, by decide⟩ ⟨by decide, by decide⟩ (Or.inl ⟨by unfold kOne; rw [if_neg c_5], rfl⟩)
