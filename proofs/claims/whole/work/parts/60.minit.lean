set_option maxHeartbeats 4000000 in
set_option maxRecDepth 100000 in
theorem c_X7_init (l : Launch) (D : va_G) (cy : Nat → ClassId) (a : Nat) (w9 : Nat) : Met l yX7_init [.code yX7_init cX7_init 1 none] ({ frames := 1, cells := 58, slots := 529, locals := 20 } : Room) (PA D cy [.ref a] (fun H => (va_P D vwCl [(a, .inr (7, ps7))] H ∧ a < w9) ∧ H.size = w9)) (UQv (fun q => q = a ∨ w9 ≤ q) (fun H => (MW D cy (mdN a w9) mZ 0 0 H) ∧ H.size = (w9 + 58))) 58 529 (fun q => q = a ∨ w9 ≤ q) := by
  refine k_bodyA (by decide +kernel) (Nat.le_of_ble_eq_true rfl) ?_
  intro p e s m below meth c ls hx hb hml hown hr hlk hmn hl hG hI hAW
  have hml9 : c.maxLocals = 1 := hml.trans hl.1
  have hl : lv_has ls 1 [(0, .ref a)] := hl
  have hS : va_S (fun q => q = a ∨ w9 ≤ q) s.heap s.heap [] := va_S.rf
  obtain ⟨ho, hsz⟩ := hI
  have hin : meth.name = "<init>" := hmn
  obtain ⟨ho, ha9⟩ := ho
  refine lv_aload_n hx hb dX7_init_0 rfl (lv_at hl 0 rfl) ?_
  refine k_oinit hx hb hml hown hG wM_X7_1 wOI dX7_init_1 (Nat.le_of_ble_eq_true rfl) (Nat.le_of_ble_eq_true rfl) ?_
  refine lv_aload_n hx hb dX7_init_4 rfl (lv_at hl 0 rfl) ?_
  refine lv_bipush (v := 8) hx hb dX7_init_5 (by decide) ?_
  refine lv_bipush (v := 6) hx hb dX7_init_7 (by decide) ?_
  refine k_mna2 (q0 := w9) hx hb hown hG hS hsz wC_X7_9 hAW (N' := 8) (K' := 6) (by decide) (by decide) (by decide) (by decide) (by decide) (by decide) (Nat.le_of_ble_eq_true rfl) (Nat.le_of_ble_eq_true rfl) dX7_init_9 (fun H1 hP1 hF1 z1 o1 hS => ?_)
  have ho := kP_keepA (A := fun _ => False) ho (fun q h _ => o1 q (by rw [hsz] at h; exact h)) (fun h => h)
  have hn9 : va_P D vwCl [(w9, .inl (cy 5, 8, rfs (fun i => if i < 8 then some (w9 + 1 + i) else none)))] H1 := hP1
  have fm9 : ∀ i, i < 8 → va_P D vwCl [(w9 + 1 + i, .inl (cy 0, 6, .inl (fun _ => 0)))] H1 := hF1
  have hsz : H1.size = (w9 + 9) := z1.trans (by omega)
  refine k_putF (ci := 7) (C := RX7) (T := TX7) (N := 20) (v := .ref w9) hx hb hown hG rfl kin_X7 tyX7 tyX7_ok nmX7 ho hS (Or.inl rfl) 3 (by decide) wF_X7_11 rfl hin rfl rfl rfl (Nat.le_of_ble_eq_true rfl) dX7_init_13 (fun H1 locs hP1 z1 oq1 hS => ?_)
  have fm9 : ∀ i, i < 8 → va_P D vwCl [(w9 + 1 + i, .inl (cy 0, 6, .inl (fun _ => 0)))] H1 := fun i hi => kP_keep (fm9 i hi) oq1 (by omega)
  have hn9 := kP_keep hn9 oq1 (show ¬ w9 = a by omega)
  have ho : va_P D vwCl [(a, .inr (7, [.int 0, .int 0, .int 0, .ref w9, .null, .null, .null, .null, .int 0, .int 0, .int 0, .null, .null, .null, .null, .int 0, .int 0, .int 0, .long 0, .long 0]))] H1 := hP1
  have hsz := z1.trans hsz
  refine lv_aload_n hx hb dX7_init_16 rfl (lv_at hl 0 rfl) ?_
  refine lv_bipush (v := 8) hx hb dX7_init_17 (by decide) ?_
  refine lv_iconst (v := 5) hx hb dX7_init_19 (by decide) ?_
  refine k_mna2 (q0 := (w9 + 9)) hx hb hown hG hS hsz wC_X7_9 hAW (N' := 8) (K' := 5) (by decide) (by decide) (by decide) (by decide) (by decide) (by decide) (Nat.le_of_ble_eq_true rfl) (Nat.le_of_ble_eq_true rfl) dX7_init_20 (fun H1 hP1 hF1 z1 o1 hS => ?_)
  have fm9 : ∀ i, i < 8 → va_P D vwCl [(w9 + 1 + i, .inl (cy 0, 6, .inl (fun _ => 0)))] H1 := fun i hi => kP_keepA (A := fun _ => False) (fm9 i hi) (fun q h _ => o1 q (by rw [hsz] at h; exact h)) (fun h => h)
  have ho := kP_keepA (A := fun _ => False) ho (fun q h _ => o1 q (by rw [hsz] at h; exact h)) (fun h => h)
  have hn9 := kP_keepA (A := fun _ => False) hn9 (fun q h _ => o1 q (by rw [hsz] at h; exact h)) (fun h => h)
  have hn20 : va_P D vwCl [((w9 + 9), .inl (cy 5, 8, rfs (fun i => if i < 8 then some (w9 + 10 + i) else none)))] H1 := hP1
  have fm20 : ∀ i, i < 8 → va_P D vwCl [(w9 + 10 + i, .inl (cy 0, 5, .inl (fun _ => 0)))] H1 := hF1
  have hsz : H1.size = (w9 + 18) := z1.trans (by omega)
  refine k_putF (ci := 7) (C := RX7) (T := TX7) (N := 20) (v := .ref (w9 + 9)) hx hb hown hG rfl kin_X7 tyX7 tyX7_ok nmX7 ho hS (Or.inl rfl) 4 (by decide) wF_X7_14 rfl hin rfl rfl rfl (Nat.le_of_ble_eq_true rfl) dX7_init_24 (fun H1 locs hP1 z1 oq1 hS => ?_)
  have fm9 : ∀ i, i < 8 → va_P D vwCl [(w9 + 1 + i, .inl (cy 0, 6, .inl (fun _ => 0)))] H1 := fun i hi => kP_keep (fm9 i hi) oq1 (by omega)
  have fm20 : ∀ i, i < 8 → va_P D vwCl [(w9 + 10 + i, .inl (cy 0, 5, .inl (fun _ => 0)))] H1 := fun i hi => kP_keep (fm20 i hi) oq1 (by omega)
  have hn9 := kP_keep hn9 oq1 (show ¬ w9 = a by omega)
  have hn20 := kP_keep hn20 oq1 (show ¬ (w9 + 9) = a by omega)
  have ho : va_P D vwCl [(a, .inr (7, [.int 0, .int 0, .int 0, .ref w9, .ref (w9 + 9), .null, .null, .null, .int 0, .int 0, .int 0, .null, .null, .null, .null, .int 0, .int 0, .int 0, .long 0, .long 0]))] H1 := hP1
  have hsz := z1.trans hsz
  refine lv_aload_n hx hb dX7_init_27 rfl (lv_at hl 0 rfl) ?_
  refine lv_iconst (v := 3) hx hb dX7_init_28 (by decide) ?_
  refine lv_iconst (v := 2) hx hb dX7_init_29 (by decide) ?_
  refine k_mna2 (q0 := (w9 + 18)) hx hb hown hG hS hsz wC_X7_9 hAW (N' := 3) (K' := 2) (by decide) (by decide) (by decide) (by decide) (by decide) (by decide) (Nat.le_of_ble_eq_true rfl) (Nat.le_of_ble_eq_true rfl) dX7_init_30 (fun H1 hP1 hF1 z1 o1 hS => ?_)
  have fm9 : ∀ i, i < 8 → va_P D vwCl [(w9 + 1 + i, .inl (cy 0, 6, .inl (fun _ => 0)))] H1 := fun i hi => kP_keepA (A := fun _ => False) (fm9 i hi) (fun q h _ => o1 q (by rw [hsz] at h; exact h)) (fun h => h)
  have fm20 : ∀ i, i < 8 → va_P D vwCl [(w9 + 10 + i, .inl (cy 0, 5, .inl (fun _ => 0)))] H1 := fun i hi => kP_keepA (A := fun _ => False) (fm20 i hi) (fun q h _ => o1 q (by rw [hsz] at h; exact h)) (fun h => h)
  have ho := kP_keepA (A := fun _ => False) ho (fun q h _ => o1 q (by rw [hsz] at h; exact h)) (fun h => h)
  have hn9 := kP_keepA (A := fun _ => False) hn9 (fun q h _ => o1 q (by rw [hsz] at h; exact h)) (fun h => h)
  have hn20 := kP_keepA (A := fun _ => False) hn20 (fun q h _ => o1 q (by rw [hsz] at h; exact h)) (fun h => h)
  have hn30 : va_P D vwCl [((w9 + 18), .inl (cy 5, 3, rfs (fun i => if i < 3 then some (w9 + 19 + i) else none)))] H1 := hP1
  have fm30 : ∀ i, i < 3 → va_P D vwCl [(w9 + 19 + i, .inl (cy 0, 2, .inl (fun _ => 0)))] H1 := hF1
  have hsz : H1.size = (w9 + 22) := z1.trans (by omega)
  refine k_putF (ci := 7) (C := RX7) (T := TX7) (N := 20) (v := .ref (w9 + 18)) hx hb hown hG rfl kin_X7 tyX7 tyX7_ok nmX7 ho hS (Or.inl rfl) 5 (by decide) wF_X7_17 rfl hin rfl rfl rfl (Nat.le_of_ble_eq_true rfl) dX7_init_34 (fun H1 locs hP1 z1 oq1 hS => ?_)
  have fm9 : ∀ i, i < 8 → va_P D vwCl [(w9 + 1 + i, .inl (cy 0, 6, .inl (fun _ => 0)))] H1 := fun i hi => kP_keep (fm9 i hi) oq1 (by omega)
  have fm20 : ∀ i, i < 8 → va_P D vwCl [(w9 + 10 + i, .inl (cy 0, 5, .inl (fun _ => 0)))] H1 := fun i hi => kP_keep (fm20 i hi) oq1 (by omega)
  have fm30 : ∀ i, i < 3 → va_P D vwCl [(w9 + 19 + i, .inl (cy 0, 2, .inl (fun _ => 0)))] H1 := fun i hi => kP_keep (fm30 i hi) oq1 (by omega)
  have hn9 := kP_keep hn9 oq1 (show ¬ w9 = a by omega)
  have hn20 := kP_keep hn20 oq1 (show ¬ (w9 + 9) = a by omega)
  have hn30 := kP_keep hn30 oq1 (show ¬ (w9 + 18) = a by omega)
  have ho : va_P D vwCl [(a, .inr (7, [.int 0, .int 0, .int 0, .ref w9, .ref (w9 + 9), .ref (w9 + 18), .null, .null, .int 0, .int 0, .int 0, .null, .null, .null, .null, .int 0, .int 0, .int 0, .long 0, .long 0]))] H1 := hP1
  have hsz := z1.trans hsz
  refine lv_aload_n hx hb dX7_init_37 rfl (lv_at hl 0 rfl) ?_
  refine lv_iconst (v := 3) hx hb dX7_init_38 (by decide) ?_
  refine lv_bipush (v := 22) hx hb dX7_init_39 (by decide) ?_
  refine k_mna2 (q0 := (w9 + 22)) hx hb hown hG hS hsz wC_X7_9 hAW (N' := 3) (K' := 22) (by decide) (by decide) (by decide) (by decide) (by decide) (by decide) (Nat.le_of_ble_eq_true rfl) (Nat.le_of_ble_eq_true rfl) dX7_init_41 (fun H1 hP1 hF1 z1 o1 hS => ?_)
  have fm9 : ∀ i, i < 8 → va_P D vwCl [(w9 + 1 + i, .inl (cy 0, 6, .inl (fun _ => 0)))] H1 := fun i hi => kP_keepA (A := fun _ => False) (fm9 i hi) (fun q h _ => o1 q (by rw [hsz] at h; exact h)) (fun h => h)
  have fm20 : ∀ i, i < 8 → va_P D vwCl [(w9 + 10 + i, .inl (cy 0, 5, .inl (fun _ => 0)))] H1 := fun i hi => kP_keepA (A := fun _ => False) (fm20 i hi) (fun q h _ => o1 q (by rw [hsz] at h; exact h)) (fun h => h)
  have fm30 : ∀ i, i < 3 → va_P D vwCl [(w9 + 19 + i, .inl (cy 0, 2, .inl (fun _ => 0)))] H1 := fun i hi => kP_keepA (A := fun _ => False) (fm30 i hi) (fun q h _ => o1 q (by rw [hsz] at h; exact h)) (fun h => h)
  have ho := kP_keepA (A := fun _ => False) ho (fun q h _ => o1 q (by rw [hsz] at h; exact h)) (fun h => h)
  have hn9 := kP_keepA (A := fun _ => False) hn9 (fun q h _ => o1 q (by rw [hsz] at h; exact h)) (fun h => h)
  have hn20 := kP_keepA (A := fun _ => False) hn20 (fun q h _ => o1 q (by rw [hsz] at h; exact h)) (fun h => h)
  have hn30 := kP_keepA (A := fun _ => False) hn30 (fun q h _ => o1 q (by rw [hsz] at h; exact h)) (fun h => h)
  have hn41 : va_P D vwCl [((w9 + 22), .inl (cy 5, 3, rfs (fun i => if i < 3 then some (w9 + 23 + i) else none)))] H1 := hP1
  have fm41 : ∀ i, i < 3 → va_P D vwCl [(w9 + 23 + i, .inl (cy 0, 22, .inl (fun _ => 0)))] H1 := hF1
  have hsz : H1.size = (w9 + 26) := z1.trans (by omega)
  refine k_putF (ci := 7) (C := RX7) (T := TX7) (N := 20) (v := .ref (w9 + 22)) hx hb hown hG rfl kin_X7 tyX7 tyX7_ok nmX7 ho hS (Or.inl rfl) 6 (by decide) wF_X7_20 rfl hin rfl rfl rfl (Nat.le_of_ble_eq_true rfl) dX7_init_45 (fun H1 locs hP1 z1 oq1 hS => ?_)
  have fm9 : ∀ i, i < 8 → va_P D vwCl [(w9 + 1 + i, .inl (cy 0, 6, .inl (fun _ => 0)))] H1 := fun i hi => kP_keep (fm9 i hi) oq1 (by omega)
  have fm20 : ∀ i, i < 8 → va_P D vwCl [(w9 + 10 + i, .inl (cy 0, 5, .inl (fun _ => 0)))] H1 := fun i hi => kP_keep (fm20 i hi) oq1 (by omega)
  have fm30 : ∀ i, i < 3 → va_P D vwCl [(w9 + 19 + i, .inl (cy 0, 2, .inl (fun _ => 0)))] H1 := fun i hi => kP_keep (fm30 i hi) oq1 (by omega)
  have fm41 : ∀ i, i < 3 → va_P D vwCl [(w9 + 23 + i, .inl (cy 0, 22, .inl (fun _ => 0)))] H1 := fun i hi => kP_keep (fm41 i hi) oq1 (by omega)
  have hn9 := kP_keep hn9 oq1 (show ¬ w9 = a by omega)
  have hn20 := kP_keep hn20 oq1 (show ¬ (w9 + 9) = a by omega)
  have hn30 := kP_keep hn30 oq1 (show ¬ (w9 + 18) = a by omega)
  have hn41 := kP_keep hn41 oq1 (show ¬ (w9 + 22) = a by omega)
  have ho : va_P D vwCl [(a, .inr (7, [.int 0, .int 0, .int 0, .ref w9, .ref (w9 + 9), .ref (w9 + 18), .ref (w9 + 22), .null, .int 0, .int 0, .int 0, .null, .null, .null, .null, .int 0, .int 0, .int 0, .long 0, .long 0]))] H1 := hP1
  have hsz := z1.trans hsz
  refine lv_aload_n hx hb dX7_init_48 rfl (lv_at hl 0 rfl) ?_
  refine lv_iconst (v := 3) hx hb dX7_init_49 (by decide) ?_
  refine lv_bipush (v := 8) hx hb dX7_init_50 (by decide) ?_
  refine lv_bipush (v := 12) hx hb dX7_init_52 (by decide) ?_
  refine k_mna3 (q0 := (w9 + 26)) hx hb hown hG hS hsz wC_X7_23 hAW (N' := 3) (K' := 8) (U' := 12) (by decide) (by decide) (by decide) (by decide) (by decide) (by decide) (by decide) (by decide) (by decide) (Nat.le_of_ble_eq_true rfl) (Nat.le_of_ble_eq_true rfl) dX7_init_54 (fun H1 hP1 hF1 hF2 z1 o1 hS => ?_)
  have fm9 : ∀ i, i < 8 → va_P D vwCl [(w9 + 1 + i, .inl (cy 0, 6, .inl (fun _ => 0)))] H1 := fun i hi => kP_keepA (A := fun _ => False) (fm9 i hi) (fun q h _ => o1 q (by rw [hsz] at h; exact h)) (fun h => h)
  have fm20 : ∀ i, i < 8 → va_P D vwCl [(w9 + 10 + i, .inl (cy 0, 5, .inl (fun _ => 0)))] H1 := fun i hi => kP_keepA (A := fun _ => False) (fm20 i hi) (fun q h _ => o1 q (by rw [hsz] at h; exact h)) (fun h => h)
  have fm30 : ∀ i, i < 3 → va_P D vwCl [(w9 + 19 + i, .inl (cy 0, 2, .inl (fun _ => 0)))] H1 := fun i hi => kP_keepA (A := fun _ => False) (fm30 i hi) (fun q h _ => o1 q (by rw [hsz] at h; exact h)) (fun h => h)
  have fm41 : ∀ i, i < 3 → va_P D vwCl [(w9 + 23 + i, .inl (cy 0, 22, .inl (fun _ => 0)))] H1 := fun i hi => kP_keepA (A := fun _ => False) (fm41 i hi) (fun q h _ => o1 q (by rw [hsz] at h; exact h)) (fun h => h)
  have ho := kP_keepA (A := fun _ => False) ho (fun q h _ => o1 q (by rw [hsz] at h; exact h)) (fun h => h)
  have hn9 := kP_keepA (A := fun _ => False) hn9 (fun q h _ => o1 q (by rw [hsz] at h; exact h)) (fun h => h)
  have hn20 := kP_keepA (A := fun _ => False) hn20 (fun q h _ => o1 q (by rw [hsz] at h; exact h)) (fun h => h)
  have hn30 := kP_keepA (A := fun _ => False) hn30 (fun q h _ => o1 q (by rw [hsz] at h; exact h)) (fun h => h)
  have hn41 := kP_keepA (A := fun _ => False) hn41 (fun q h _ => o1 q (by rw [hsz] at h; exact h)) (fun h => h)
  have hn54 : va_P D vwCl [((w9 + 26), .inl (cy 6, 3, rfs (fun i => if i < 3 then some (w9 + 27 + i * 9) else none)))] H1 := hP1
  have fm54 : ∀ i, i < 3 → va_P D vwCl [(w9 + 27 + i * 9, .inl (cy 5, 8, rfs (fun j => if j < 8 then some (w9 + 27 + i * 9 + 1 + j) else none)))] H1 := hF1
  have fl54 : ∀ i j, i < 3 → j < 8 → va_P D vwCl [(w9 + 27 + i * 9 + 1 + j, .inl (cy 0, 12, .inl (fun _ => 0)))] H1 := hF2
  have hsz : H1.size = (w9 + 54) := z1.trans (by omega)
  refine k_putF (ci := 7) (C := RX7) (T := TX7) (N := 20) (v := .ref (w9 + 26)) hx hb hown hG rfl kin_X7 tyX7 tyX7_ok nmX7 ho hS (Or.inl rfl) 7 (by decide) wF_X7_25 rfl hin rfl rfl rfl (Nat.le_of_ble_eq_true rfl) dX7_init_58 (fun H1 locs hP1 z1 oq1 hS => ?_)
  have fm9 : ∀ i, i < 8 → va_P D vwCl [(w9 + 1 + i, .inl (cy 0, 6, .inl (fun _ => 0)))] H1 := fun i hi => kP_keep (fm9 i hi) oq1 (by omega)
  have fm20 : ∀ i, i < 8 → va_P D vwCl [(w9 + 10 + i, .inl (cy 0, 5, .inl (fun _ => 0)))] H1 := fun i hi => kP_keep (fm20 i hi) oq1 (by omega)
  have fm30 : ∀ i, i < 3 → va_P D vwCl [(w9 + 19 + i, .inl (cy 0, 2, .inl (fun _ => 0)))] H1 := fun i hi => kP_keep (fm30 i hi) oq1 (by omega)
  have fm41 : ∀ i, i < 3 → va_P D vwCl [(w9 + 23 + i, .inl (cy 0, 22, .inl (fun _ => 0)))] H1 := fun i hi => kP_keep (fm41 i hi) oq1 (by omega)
  have fm54 : ∀ i, i < 3 → va_P D vwCl [(w9 + 27 + i * 9, .inl (cy 5, 8, rfs (fun j => if j < 8 then some (w9 + 27 + i * 9 + 1 + j) else none)))] H1 := fun i hi => kP_keep (fm54 i hi) oq1 (by omega)
  have fl54 : ∀ i j, i < 3 → j < 8 → va_P D vwCl [(w9 + 27 + i * 9 + 1 + j, .inl (cy 0, 12, .inl (fun _ => 0)))] H1 := fun i j hi hj => kP_keep (fl54 i j hi hj) oq1 (by omega)
  have hn9 := kP_keep hn9 oq1 (show ¬ w9 = a by omega)
  have hn20 := kP_keep hn20 oq1 (show ¬ (w9 + 9) = a by omega)
  have hn30 := kP_keep hn30 oq1 (show ¬ (w9 + 18) = a by omega)
  have hn41 := kP_keep hn41 oq1 (show ¬ (w9 + 22) = a by omega)
  have hn54 := kP_keep hn54 oq1 (show ¬ (w9 + 26) = a by omega)
  have ho : va_P D vwCl [(a, .inr (7, [.int 0, .int 0, .int 0, .ref w9, .ref (w9 + 9), .ref (w9 + 18), .ref (w9 + 22), .ref (w9 + 26), .int 0, .int 0, .int 0, .null, .null, .null, .null, .int 0, .int 0, .int 0, .long 0, .long 0]))] H1 := hP1
  have hsz := z1.trans hsz
  refine lv_aload_n hx hb dX7_init_61 rfl (lv_at hl 0 rfl) ?_
  refine lv_bipush (v := 8) hx hb dX7_init_62 (by decide) ?_
  refine k_newi (q0 := (w9 + 54)) hx hb hG hS hsz (by decide) (N' := 8) (by decide) (by decide) (Nat.le_of_ble_eq_true rfl) (Nat.le_of_ble_eq_true rfl) dX7_init_64 (fun H1 hP1 z1 o1 hS => ?_)
  have fm9 : ∀ i, i < 8 → va_P D vwCl [(w9 + 1 + i, .inl (cy 0, 6, .inl (fun _ => 0)))] H1 := fun i hi => kP_keepA (A := fun _ => False) (fm9 i hi) (fun q h _ => o1 q (by rw [hsz] at h; exact h)) (fun h => h)
  have fm20 : ∀ i, i < 8 → va_P D vwCl [(w9 + 10 + i, .inl (cy 0, 5, .inl (fun _ => 0)))] H1 := fun i hi => kP_keepA (A := fun _ => False) (fm20 i hi) (fun q h _ => o1 q (by rw [hsz] at h; exact h)) (fun h => h)
  have fm30 : ∀ i, i < 3 → va_P D vwCl [(w9 + 19 + i, .inl (cy 0, 2, .inl (fun _ => 0)))] H1 := fun i hi => kP_keepA (A := fun _ => False) (fm30 i hi) (fun q h _ => o1 q (by rw [hsz] at h; exact h)) (fun h => h)
  have fm41 : ∀ i, i < 3 → va_P D vwCl [(w9 + 23 + i, .inl (cy 0, 22, .inl (fun _ => 0)))] H1 := fun i hi => kP_keepA (A := fun _ => False) (fm41 i hi) (fun q h _ => o1 q (by rw [hsz] at h; exact h)) (fun h => h)
  have fm54 : ∀ i, i < 3 → va_P D vwCl [(w9 + 27 + i * 9, .inl (cy 5, 8, rfs (fun j => if j < 8 then some (w9 + 27 + i * 9 + 1 + j) else none)))] H1 := fun i hi => kP_keepA (A := fun _ => False) (fm54 i hi) (fun q h _ => o1 q (by rw [hsz] at h; exact h)) (fun h => h)
  have fl54 : ∀ i j, i < 3 → j < 8 → va_P D vwCl [(w9 + 27 + i * 9 + 1 + j, .inl (cy 0, 12, .inl (fun _ => 0)))] H1 := fun i j hi hj => kP_keepA (A := fun _ => False) (fl54 i j hi hj) (fun q h _ => o1 q (by rw [hsz] at h; exact h)) (fun h => h)
  have ho := kP_keepA (A := fun _ => False) ho (fun q h _ => o1 q (by rw [hsz] at h; exact h)) (fun h => h)
  have hn9 := kP_keepA (A := fun _ => False) hn9 (fun q h _ => o1 q (by rw [hsz] at h; exact h)) (fun h => h)
  have hn20 := kP_keepA (A := fun _ => False) hn20 (fun q h _ => o1 q (by rw [hsz] at h; exact h)) (fun h => h)
  have hn30 := kP_keepA (A := fun _ => False) hn30 (fun q h _ => o1 q (by rw [hsz] at h; exact h)) (fun h => h)
  have hn41 := kP_keepA (A := fun _ => False) hn41 (fun q h _ => o1 q (by rw [hsz] at h; exact h)) (fun h => h)
  have hn54 := kP_keepA (A := fun _ => False) hn54 (fun q h _ => o1 q (by rw [hsz] at h; exact h)) (fun h => h)
  have hn64 := hP1
  have hsz : H1.size = (w9 + 55) := z1
  refine k_putF (ci := 7) (C := RX7) (T := TX7) (N := 20) (v := .ref (w9 + 54)) hx hb hown hG rfl kin_X7 tyX7 tyX7_ok nmX7 ho hS (Or.inl rfl) 11 (by decide) wF_X7_28 rfl hin rfl rfl rfl (Nat.le_of_ble_eq_true rfl) dX7_init_66 (fun H1 locs hP1 z1 oq1 hS => ?_)
  have fm9 : ∀ i, i < 8 → va_P D vwCl [(w9 + 1 + i, .inl (cy 0, 6, .inl (fun _ => 0)))] H1 := fun i hi => kP_keep (fm9 i hi) oq1 (by omega)
  have fm20 : ∀ i, i < 8 → va_P D vwCl [(w9 + 10 + i, .inl (cy 0, 5, .inl (fun _ => 0)))] H1 := fun i hi => kP_keep (fm20 i hi) oq1 (by omega)
  have fm30 : ∀ i, i < 3 → va_P D vwCl [(w9 + 19 + i, .inl (cy 0, 2, .inl (fun _ => 0)))] H1 := fun i hi => kP_keep (fm30 i hi) oq1 (by omega)
  have fm41 : ∀ i, i < 3 → va_P D vwCl [(w9 + 23 + i, .inl (cy 0, 22, .inl (fun _ => 0)))] H1 := fun i hi => kP_keep (fm41 i hi) oq1 (by omega)
  have fm54 : ∀ i, i < 3 → va_P D vwCl [(w9 + 27 + i * 9, .inl (cy 5, 8, rfs (fun j => if j < 8 then some (w9 + 27 + i * 9 + 1 + j) else none)))] H1 := fun i hi => kP_keep (fm54 i hi) oq1 (by omega)
  have fl54 : ∀ i j, i < 3 → j < 8 → va_P D vwCl [(w9 + 27 + i * 9 + 1 + j, .inl (cy 0, 12, .inl (fun _ => 0)))] H1 := fun i j hi hj => kP_keep (fl54 i j hi hj) oq1 (by omega)
  have hn9 := kP_keep hn9 oq1 (show ¬ w9 = a by omega)
  have hn20 := kP_keep hn20 oq1 (show ¬ (w9 + 9) = a by omega)
  have hn30 := kP_keep hn30 oq1 (show ¬ (w9 + 18) = a by omega)
  have hn41 := kP_keep hn41 oq1 (show ¬ (w9 + 22) = a by omega)
  have hn54 := kP_keep hn54 oq1 (show ¬ (w9 + 26) = a by omega)
  have hn64 := kP_keep hn64 oq1 (show ¬ (w9 + 54) = a by omega)
  have ho : va_P D vwCl [(a, .inr (7, [.int 0, .int 0, .int 0, .ref w9, .ref (w9 + 9), .ref (w9 + 18), .ref (w9 + 22), .ref (w9 + 26), .int 0, .int 0, .int 0, .ref (w9 + 54), .null, .null, .null, .int 0, .int 0, .int 0, .long 0, .long 0]))] H1 := hP1
  have hsz := z1.trans hsz
  refine lv_aload_n hx hb dX7_init_69 rfl (lv_at hl 0 rfl) ?_
  refine lv_bipush (v := 8) hx hb dX7_init_70 (by decide) ?_
  refine k_newi (q0 := (w9 + 55)) hx hb hG hS hsz (by decide) (N' := 8) (by decide) (by decide) (Nat.le_of_ble_eq_true rfl) (Nat.le_of_ble_eq_true rfl) dX7_init_72 (fun H1 hP1 z1 o1 hS => ?_)
  have fm9 : ∀ i, i < 8 → va_P D vwCl [(w9 + 1 + i, .inl (cy 0, 6, .inl (fun _ => 0)))] H1 := fun i hi => kP_keepA (A := fun _ => False) (fm9 i hi) (fun q h _ => o1 q (by rw [hsz] at h; exact h)) (fun h => h)
  have fm20 : ∀ i, i < 8 → va_P D vwCl [(w9 + 10 + i, .inl (cy 0, 5, .inl (fun _ => 0)))] H1 := fun i hi => kP_keepA (A := fun _ => False) (fm20 i hi) (fun q h _ => o1 q (by rw [hsz] at h; exact h)) (fun h => h)
  have fm30 : ∀ i, i < 3 → va_P D vwCl [(w9 + 19 + i, .inl (cy 0, 2, .inl (fun _ => 0)))] H1 := fun i hi => kP_keepA (A := fun _ => False) (fm30 i hi) (fun q h _ => o1 q (by rw [hsz] at h; exact h)) (fun h => h)
  have fm41 : ∀ i, i < 3 → va_P D vwCl [(w9 + 23 + i, .inl (cy 0, 22, .inl (fun _ => 0)))] H1 := fun i hi => kP_keepA (A := fun _ => False) (fm41 i hi) (fun q h _ => o1 q (by rw [hsz] at h; exact h)) (fun h => h)
  have fm54 : ∀ i, i < 3 → va_P D vwCl [(w9 + 27 + i * 9, .inl (cy 5, 8, rfs (fun j => if j < 8 then some (w9 + 27 + i * 9 + 1 + j) else none)))] H1 := fun i hi => kP_keepA (A := fun _ => False) (fm54 i hi) (fun q h _ => o1 q (by rw [hsz] at h; exact h)) (fun h => h)
  have fl54 : ∀ i j, i < 3 → j < 8 → va_P D vwCl [(w9 + 27 + i * 9 + 1 + j, .inl (cy 0, 12, .inl (fun _ => 0)))] H1 := fun i j hi hj => kP_keepA (A := fun _ => False) (fl54 i j hi hj) (fun q h _ => o1 q (by rw [hsz] at h; exact h)) (fun h => h)
  have ho := kP_keepA (A := fun _ => False) ho (fun q h _ => o1 q (by rw [hsz] at h; exact h)) (fun h => h)
  have hn9 := kP_keepA (A := fun _ => False) hn9 (fun q h _ => o1 q (by rw [hsz] at h; exact h)) (fun h => h)
  have hn20 := kP_keepA (A := fun _ => False) hn20 (fun q h _ => o1 q (by rw [hsz] at h; exact h)) (fun h => h)
  have hn30 := kP_keepA (A := fun _ => False) hn30 (fun q h _ => o1 q (by rw [hsz] at h; exact h)) (fun h => h)
  have hn41 := kP_keepA (A := fun _ => False) hn41 (fun q h _ => o1 q (by rw [hsz] at h; exact h)) (fun h => h)
  have hn54 := kP_keepA (A := fun _ => False) hn54 (fun q h _ => o1 q (by rw [hsz] at h; exact h)) (fun h => h)
  have hn64 := kP_keepA (A := fun _ => False) hn64 (fun q h _ => o1 q (by rw [hsz] at h; exact h)) (fun h => h)
  have hn72 := hP1
  have hsz : H1.size = (w9 + 56) := z1
  refine k_putF (ci := 7) (C := RX7) (T := TX7) (N := 20) (v := .ref (w9 + 55)) hx hb hown hG rfl kin_X7 tyX7 tyX7_ok nmX7 ho hS (Or.inl rfl) 12 (by decide) wF_X7_32 rfl hin rfl rfl rfl (Nat.le_of_ble_eq_true rfl) dX7_init_74 (fun H1 locs hP1 z1 oq1 hS => ?_)
  have fm9 : ∀ i, i < 8 → va_P D vwCl [(w9 + 1 + i, .inl (cy 0, 6, .inl (fun _ => 0)))] H1 := fun i hi => kP_keep (fm9 i hi) oq1 (by omega)
  have fm20 : ∀ i, i < 8 → va_P D vwCl [(w9 + 10 + i, .inl (cy 0, 5, .inl (fun _ => 0)))] H1 := fun i hi => kP_keep (fm20 i hi) oq1 (by omega)
  have fm30 : ∀ i, i < 3 → va_P D vwCl [(w9 + 19 + i, .inl (cy 0, 2, .inl (fun _ => 0)))] H1 := fun i hi => kP_keep (fm30 i hi) oq1 (by omega)
  have fm41 : ∀ i, i < 3 → va_P D vwCl [(w9 + 23 + i, .inl (cy 0, 22, .inl (fun _ => 0)))] H1 := fun i hi => kP_keep (fm41 i hi) oq1 (by omega)
  have fm54 : ∀ i, i < 3 → va_P D vwCl [(w9 + 27 + i * 9, .inl (cy 5, 8, rfs (fun j => if j < 8 then some (w9 + 27 + i * 9 + 1 + j) else none)))] H1 := fun i hi => kP_keep (fm54 i hi) oq1 (by omega)
  have fl54 : ∀ i j, i < 3 → j < 8 → va_P D vwCl [(w9 + 27 + i * 9 + 1 + j, .inl (cy 0, 12, .inl (fun _ => 0)))] H1 := fun i j hi hj => kP_keep (fl54 i j hi hj) oq1 (by omega)
  have hn9 := kP_keep hn9 oq1 (show ¬ w9 = a by omega)
  have hn20 := kP_keep hn20 oq1 (show ¬ (w9 + 9) = a by omega)
  have hn30 := kP_keep hn30 oq1 (show ¬ (w9 + 18) = a by omega)
  have hn41 := kP_keep hn41 oq1 (show ¬ (w9 + 22) = a by omega)
  have hn54 := kP_keep hn54 oq1 (show ¬ (w9 + 26) = a by omega)
  have hn64 := kP_keep hn64 oq1 (show ¬ (w9 + 54) = a by omega)
  have hn72 := kP_keep hn72 oq1 (show ¬ (w9 + 55) = a by omega)
  have ho : va_P D vwCl [(a, .inr (7, [.int 0, .int 0, .int 0, .ref w9, .ref (w9 + 9), .ref (w9 + 18), .ref (w9 + 22), .ref (w9 + 26), .int 0, .int 0, .int 0, .ref (w9 + 54), .ref (w9 + 55), .null, .null, .int 0, .int 0, .int 0, .long 0, .long 0]))] H1 := hP1
  have hsz := z1.trans hsz
  refine lv_aload_n hx hb dX7_init_77 rfl (lv_at hl 0 rfl) ?_
  refine lv_bipush (v := 8) hx hb dX7_init_78 (by decide) ?_
  refine k_newi (q0 := (w9 + 56)) hx hb hG hS hsz (by decide) (N' := 8) (by decide) (by decide) (Nat.le_of_ble_eq_true rfl) (Nat.le_of_ble_eq_true rfl) dX7_init_80 (fun H1 hP1 z1 o1 hS => ?_)
  have fm9 : ∀ i, i < 8 → va_P D vwCl [(w9 + 1 + i, .inl (cy 0, 6, .inl (fun _ => 0)))] H1 := fun i hi => kP_keepA (A := fun _ => False) (fm9 i hi) (fun q h _ => o1 q (by rw [hsz] at h; exact h)) (fun h => h)
  have fm20 : ∀ i, i < 8 → va_P D vwCl [(w9 + 10 + i, .inl (cy 0, 5, .inl (fun _ => 0)))] H1 := fun i hi => kP_keepA (A := fun _ => False) (fm20 i hi) (fun q h _ => o1 q (by rw [hsz] at h; exact h)) (fun h => h)
  have fm30 : ∀ i, i < 3 → va_P D vwCl [(w9 + 19 + i, .inl (cy 0, 2, .inl (fun _ => 0)))] H1 := fun i hi => kP_keepA (A := fun _ => False) (fm30 i hi) (fun q h _ => o1 q (by rw [hsz] at h; exact h)) (fun h => h)
  have fm41 : ∀ i, i < 3 → va_P D vwCl [(w9 + 23 + i, .inl (cy 0, 22, .inl (fun _ => 0)))] H1 := fun i hi => kP_keepA (A := fun _ => False) (fm41 i hi) (fun q h _ => o1 q (by rw [hsz] at h; exact h)) (fun h => h)
  have fm54 : ∀ i, i < 3 → va_P D vwCl [(w9 + 27 + i * 9, .inl (cy 5, 8, rfs (fun j => if j < 8 then some (w9 + 27 + i * 9 + 1 + j) else none)))] H1 := fun i hi => kP_keepA (A := fun _ => False) (fm54 i hi) (fun q h _ => o1 q (by rw [hsz] at h; exact h)) (fun h => h)
  have fl54 : ∀ i j, i < 3 → j < 8 → va_P D vwCl [(w9 + 27 + i * 9 + 1 + j, .inl (cy 0, 12, .inl (fun _ => 0)))] H1 := fun i j hi hj => kP_keepA (A := fun _ => False) (fl54 i j hi hj) (fun q h _ => o1 q (by rw [hsz] at h; exact h)) (fun h => h)
  have ho := kP_keepA (A := fun _ => False) ho (fun q h _ => o1 q (by rw [hsz] at h; exact h)) (fun h => h)
  have hn9 := kP_keepA (A := fun _ => False) hn9 (fun q h _ => o1 q (by rw [hsz] at h; exact h)) (fun h => h)
  have hn20 := kP_keepA (A := fun _ => False) hn20 (fun q h _ => o1 q (by rw [hsz] at h; exact h)) (fun h => h)
  have hn30 := kP_keepA (A := fun _ => False) hn30 (fun q h _ => o1 q (by rw [hsz] at h; exact h)) (fun h => h)
  have hn41 := kP_keepA (A := fun _ => False) hn41 (fun q h _ => o1 q (by rw [hsz] at h; exact h)) (fun h => h)
  have hn54 := kP_keepA (A := fun _ => False) hn54 (fun q h _ => o1 q (by rw [hsz] at h; exact h)) (fun h => h)
  have hn64 := kP_keepA (A := fun _ => False) hn64 (fun q h _ => o1 q (by rw [hsz] at h; exact h)) (fun h => h)
  have hn72 := kP_keepA (A := fun _ => False) hn72 (fun q h _ => o1 q (by rw [hsz] at h; exact h)) (fun h => h)
  have hn80 := hP1
  have hsz : H1.size = (w9 + 57) := z1
  refine k_putF (ci := 7) (C := RX7) (T := TX7) (N := 20) (v := .ref (w9 + 56)) hx hb hown hG rfl kin_X7 tyX7 tyX7_ok nmX7 ho hS (Or.inl rfl) 13 (by decide) wF_X7_35 rfl hin rfl rfl rfl (Nat.le_of_ble_eq_true rfl) dX7_init_82 (fun H1 locs hP1 z1 oq1 hS => ?_)
  have fm9 : ∀ i, i < 8 → va_P D vwCl [(w9 + 1 + i, .inl (cy 0, 6, .inl (fun _ => 0)))] H1 := fun i hi => kP_keep (fm9 i hi) oq1 (by omega)
  have fm20 : ∀ i, i < 8 → va_P D vwCl [(w9 + 10 + i, .inl (cy 0, 5, .inl (fun _ => 0)))] H1 := fun i hi => kP_keep (fm20 i hi) oq1 (by omega)
  have fm30 : ∀ i, i < 3 → va_P D vwCl [(w9 + 19 + i, .inl (cy 0, 2, .inl (fun _ => 0)))] H1 := fun i hi => kP_keep (fm30 i hi) oq1 (by omega)
  have fm41 : ∀ i, i < 3 → va_P D vwCl [(w9 + 23 + i, .inl (cy 0, 22, .inl (fun _ => 0)))] H1 := fun i hi => kP_keep (fm41 i hi) oq1 (by omega)
  have fm54 : ∀ i, i < 3 → va_P D vwCl [(w9 + 27 + i * 9, .inl (cy 5, 8, rfs (fun j => if j < 8 then some (w9 + 27 + i * 9 + 1 + j) else none)))] H1 := fun i hi => kP_keep (fm54 i hi) oq1 (by omega)
  have fl54 : ∀ i j, i < 3 → j < 8 → va_P D vwCl [(w9 + 27 + i * 9 + 1 + j, .inl (cy 0, 12, .inl (fun _ => 0)))] H1 := fun i j hi hj => kP_keep (fl54 i j hi hj) oq1 (by omega)
  have hn9 := kP_keep hn9 oq1 (show ¬ w9 = a by omega)
  have hn20 := kP_keep hn20 oq1 (show ¬ (w9 + 9) = a by omega)
  have hn30 := kP_keep hn30 oq1 (show ¬ (w9 + 18) = a by omega)
  have hn41 := kP_keep hn41 oq1 (show ¬ (w9 + 22) = a by omega)
  have hn54 := kP_keep hn54 oq1 (show ¬ (w9 + 26) = a by omega)
  have hn64 := kP_keep hn64 oq1 (show ¬ (w9 + 54) = a by omega)
  have hn72 := kP_keep hn72 oq1 (show ¬ (w9 + 55) = a by omega)
  have hn80 := kP_keep hn80 oq1 (show ¬ (w9 + 56) = a by omega)
  have ho : va_P D vwCl [(a, .inr (7, [.int 0, .int 0, .int 0, .ref w9, .ref (w9 + 9), .ref (w9 + 18), .ref (w9 + 22), .ref (w9 + 26), .int 0, .int 0, .int 0, .ref (w9 + 54), .ref (w9 + 55), .ref (w9 + 56), .null, .int 0, .int 0, .int 0, .long 0, .long 0]))] H1 := hP1
  have hsz := z1.trans hsz
  refine lv_aload_n hx hb dX7_init_85 rfl (lv_at hl 0 rfl) ?_
  refine lv_bipush (v := 8) hx hb dX7_init_86 (by decide) ?_
  refine k_newi (q0 := (w9 + 57)) hx hb hG hS hsz (by decide) (N' := 8) (by decide) (by decide) (Nat.le_of_ble_eq_true rfl) (Nat.le_of_ble_eq_true rfl) dX7_init_88 (fun H1 hP1 z1 o1 hS => ?_)
  have fm9 : ∀ i, i < 8 → va_P D vwCl [(w9 + 1 + i, .inl (cy 0, 6, .inl (fun _ => 0)))] H1 := fun i hi => kP_keepA (A := fun _ => False) (fm9 i hi) (fun q h _ => o1 q (by rw [hsz] at h; exact h)) (fun h => h)
  have fm20 : ∀ i, i < 8 → va_P D vwCl [(w9 + 10 + i, .inl (cy 0, 5, .inl (fun _ => 0)))] H1 := fun i hi => kP_keepA (A := fun _ => False) (fm20 i hi) (fun q h _ => o1 q (by rw [hsz] at h; exact h)) (fun h => h)
  have fm30 : ∀ i, i < 3 → va_P D vwCl [(w9 + 19 + i, .inl (cy 0, 2, .inl (fun _ => 0)))] H1 := fun i hi => kP_keepA (A := fun _ => False) (fm30 i hi) (fun q h _ => o1 q (by rw [hsz] at h; exact h)) (fun h => h)
  have fm41 : ∀ i, i < 3 → va_P D vwCl [(w9 + 23 + i, .inl (cy 0, 22, .inl (fun _ => 0)))] H1 := fun i hi => kP_keepA (A := fun _ => False) (fm41 i hi) (fun q h _ => o1 q (by rw [hsz] at h; exact h)) (fun h => h)
  have fm54 : ∀ i, i < 3 → va_P D vwCl [(w9 + 27 + i * 9, .inl (cy 5, 8, rfs (fun j => if j < 8 then some (w9 + 27 + i * 9 + 1 + j) else none)))] H1 := fun i hi => kP_keepA (A := fun _ => False) (fm54 i hi) (fun q h _ => o1 q (by rw [hsz] at h; exact h)) (fun h => h)
  have fl54 : ∀ i j, i < 3 → j < 8 → va_P D vwCl [(w9 + 27 + i * 9 + 1 + j, .inl (cy 0, 12, .inl (fun _ => 0)))] H1 := fun i j hi hj => kP_keepA (A := fun _ => False) (fl54 i j hi hj) (fun q h _ => o1 q (by rw [hsz] at h; exact h)) (fun h => h)
  have ho := kP_keepA (A := fun _ => False) ho (fun q h _ => o1 q (by rw [hsz] at h; exact h)) (fun h => h)
  have hn9 := kP_keepA (A := fun _ => False) hn9 (fun q h _ => o1 q (by rw [hsz] at h; exact h)) (fun h => h)
  have hn20 := kP_keepA (A := fun _ => False) hn20 (fun q h _ => o1 q (by rw [hsz] at h; exact h)) (fun h => h)
  have hn30 := kP_keepA (A := fun _ => False) hn30 (fun q h _ => o1 q (by rw [hsz] at h; exact h)) (fun h => h)
  have hn41 := kP_keepA (A := fun _ => False) hn41 (fun q h _ => o1 q (by rw [hsz] at h; exact h)) (fun h => h)
  have hn54 := kP_keepA (A := fun _ => False) hn54 (fun q h _ => o1 q (by rw [hsz] at h; exact h)) (fun h => h)
  have hn64 := kP_keepA (A := fun _ => False) hn64 (fun q h _ => o1 q (by rw [hsz] at h; exact h)) (fun h => h)
  have hn72 := kP_keepA (A := fun _ => False) hn72 (fun q h _ => o1 q (by rw [hsz] at h; exact h)) (fun h => h)
  have hn80 := kP_keepA (A := fun _ => False) hn80 (fun q h _ => o1 q (by rw [hsz] at h; exact h)) (fun h => h)
  have hn88 := hP1
  have hsz : H1.size = (w9 + 58) := z1
  refine k_putF (ci := 7) (C := RX7) (T := TX7) (N := 20) (v := .ref (w9 + 57)) hx hb hown hG rfl kin_X7 tyX7 tyX7_ok nmX7 ho hS (Or.inl rfl) 14 (by decide) wF_X7_38 rfl hin rfl rfl rfl (Nat.le_of_ble_eq_true rfl) dX7_init_90 (fun H1 locs hP1 z1 oq1 hS => ?_)
  have fm9 : ∀ i, i < 8 → va_P D vwCl [(w9 + 1 + i, .inl (cy 0, 6, .inl (fun _ => 0)))] H1 := fun i hi => kP_keep (fm9 i hi) oq1 (by omega)
  have fm20 : ∀ i, i < 8 → va_P D vwCl [(w9 + 10 + i, .inl (cy 0, 5, .inl (fun _ => 0)))] H1 := fun i hi => kP_keep (fm20 i hi) oq1 (by omega)
  have fm30 : ∀ i, i < 3 → va_P D vwCl [(w9 + 19 + i, .inl (cy 0, 2, .inl (fun _ => 0)))] H1 := fun i hi => kP_keep (fm30 i hi) oq1 (by omega)
  have fm41 : ∀ i, i < 3 → va_P D vwCl [(w9 + 23 + i, .inl (cy 0, 22, .inl (fun _ => 0)))] H1 := fun i hi => kP_keep (fm41 i hi) oq1 (by omega)
  have fm54 : ∀ i, i < 3 → va_P D vwCl [(w9 + 27 + i * 9, .inl (cy 5, 8, rfs (fun j => if j < 8 then some (w9 + 27 + i * 9 + 1 + j) else none)))] H1 := fun i hi => kP_keep (fm54 i hi) oq1 (by omega)
  have fl54 : ∀ i j, i < 3 → j < 8 → va_P D vwCl [(w9 + 27 + i * 9 + 1 + j, .inl (cy 0, 12, .inl (fun _ => 0)))] H1 := fun i j hi hj => kP_keep (fl54 i j hi hj) oq1 (by omega)
  have hn9 := kP_keep hn9 oq1 (show ¬ w9 = a by omega)
  have hn20 := kP_keep hn20 oq1 (show ¬ (w9 + 9) = a by omega)
  have hn30 := kP_keep hn30 oq1 (show ¬ (w9 + 18) = a by omega)
  have hn41 := kP_keep hn41 oq1 (show ¬ (w9 + 22) = a by omega)
  have hn54 := kP_keep hn54 oq1 (show ¬ (w9 + 26) = a by omega)
  have hn64 := kP_keep hn64 oq1 (show ¬ (w9 + 54) = a by omega)
  have hn72 := kP_keep hn72 oq1 (show ¬ (w9 + 55) = a by omega)
  have hn80 := kP_keep hn80 oq1 (show ¬ (w9 + 56) = a by omega)
  have hn88 := kP_keep hn88 oq1 (show ¬ (w9 + 57) = a by omega)
  have ho : va_P D vwCl [(a, .inr (7, [.int 0, .int 0, .int 0, .ref w9, .ref (w9 + 9), .ref (w9 + 18), .ref (w9 + 22), .ref (w9 + 26), .int 0, .int 0, .int 0, .ref (w9 + 54), .ref (w9 + 55), .ref (w9 + 56), .ref (w9 + 57), .int 0, .int 0, .int 0, .long 0, .long 0]))] H1 := hP1
  have hsz := z1.trans hsz
  exact ke_uv hx hb hr hlk hS dX7_init_93 ⟨mdN_MW ho hn9 fm9 hn20 fm20 hn30 fm30 hn41 fm41 hn54 fm54 fl54 hn64 hn72 hn80 hn88, hsz⟩
