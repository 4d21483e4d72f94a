theorem cfL_star : CFw yL_star cL_star 8 [(0, 16, 19, 13), (0, 16, 23, 15)] 7 := by unfold CFw; decide +kernel
set_option maxHeartbeats 4000000 in
set_option maxRecDepth 100000 in
theorem c_L_star (l : Launch) (hlf : l.stackTraces = false) (D : va_G) (cy : Nat → ClassId) (ad : Nat → Nat) (ns nt nr : Nat) (hL : LB ns nt nr) (M : Nat → Nat → Int32) (V : SX) (hA : AI ad ns nt nr) (ra ph sp of dr : Int32) (w9 : Nat) (oo : Nat) (f : Nat → Int64) (hoA : ¬ CA ad ns nt nr oo) : Met l yL_star [.codeWith yL_star cL_star 8 (some .int) [(0, 16, 19, 13), (0, 16, 23, 15)]] ({ frames := 7, cells := 1, slots := 11, locals := 107 } : Room) (PL D cy [.ref (ad 0), .int ra, .int ph, .int sp, .int of, .int dr, .ref oo] (fun H => (CW D cy ad ns nt nr M V H ∧ oL D cy oo f H) ∧ H.size = w9)) (UQi (fun q => (CA ad ns nt nr q ∨ q = oo) ∨ w9 ≤ q) (fun r9 H => r9 = (kStar ns ra ph sp of dr) ∧ ∃ f' : Nat → Int64, oL D cy oo f' H ∧ ((¬ (kStar ns ra ph sp of dr) = 0 ∧ CW D cy ad ns nt nr M V H) ∨ ∃ r : Int32, f' 0 = r.toInt64 ∧ kStar ns ra ph sp of dr = 0 ∧ ns < 8 ∧ r = nI ns ∧ CW D cy (adA ad (10 + ns) w9) (ns + 1) nt nr (mset M (10 + ns) (rNew ra ph sp of dr)) V H))) 1 11 (fun q => (CA ad ns nt nr q ∨ q = oo) ∨ w9 ≤ q) := by
  refine k_bodyL (by decide +kernel) (Nat.le_of_ble_eq_true rfl) ?_
  intro p e s m below meth c ls hx hb hml hown hr hlk hl hG hI hX hZ hAW hN ht
  have hml9 : c.maxLocals = 8 := hml.trans hl.1
  have hS : va_S (fun q => (CA ad ns nt nr q ∨ q = oo) ∨ w9 ≤ q) s.heap s.heap [] := va_S.rf
  obtain ⟨⟨hw, ho⟩, hsz⟩ := hI
  have holt : oo < s.heap.size := (ho 0 _ rfl).lt
  have hl : lv_has ls 8 [(0, .ref (ad 0)), (1, .int ra), (2, .int ph), (3, .int sp), (4, .int of), (5, .int dr), (6, .ref oo)] := hl
  refine lv_aload hx hb dL_star_0 (lv_at hl 6 rfl) ?_
  refine lv_iconst (v := 0) hx hb dL_star_2 (by decide) ?_
  refine lv_aload_n hx hb dL_star_3 rfl (lv_at hl 0 rfl) ?_
  refine lv_iload_n hx hb dL_star_4 rfl (lv_at hl 1 rfl) ?_
  refine lv_iload_n hx hb dL_star_5 rfl (lv_at hl 2 rfl) ?_
  refine lv_iload_n hx hb dL_star_6 rfl (lv_at hl 3 rfl) ?_
  refine lv_iload hx hb dL_star_7 (lv_at hl 4 rfl) ?_
  refine lv_iload hx hb dL_star_9 (lv_at hl 5 rfl) ?_
  refine kx_ui (kx_V (As := [.int ra, .int ph, .int sp, .int of, .int dr]) (rest := [.int 0, .ref oo]) hx hb hml hown hG (c_X6_star l hlf D cy ad ns nt nr hL M V hA ra ph sp of dr w9) cf_X6_star wM_L_7 (PX2.preV hG hX hZ hAW hw.o rfl ⟨hw, hsz⟩) ⟨rfl, rfl, Nat.le_of_ble_eq_true rfl, Nat.le_of_ble_eq_true rfl⟩ rfl rfl (Nat.le_of_ble_eq_true rfl) ⟨Nat.le_of_ble_eq_true rfl, Nat.le_of_ble_eq_true rfl⟩ dL_star_11) hS (fun q h => h.elim (fun h => Or.inl (Or.inl h)) Or.inr) (fun E9 ce q9 H1 locs hpE z1 oq1 hS hce hcv hcl => ?_) (fun r H1 locs hp1 z1 oq1 hS => ?_)
  · have ho := kP_keepA ho oq1 (fun h => h)
    have hw := hw.keep oq1 (fun q _ h => h)
    rcases hpE with ⟨hk, rfl⟩ | ⟨hk, rfl⟩
    · refine k_c1 ht (by decide) (by decide) hown hG hX wC_L_13 wCa_ia hce hcv hcl ?_
      refine lv_astore (lv' := [(7, .ref q9), (0, .ref (ad 0)), (1, .int ra), (2, .int ph), (3, .int sp), (4, .int of), (5, .int dr), (6, .ref oo)]) hx hb dL_star_19 hl (by decide) rfl (fun ls hl => ?_)
      have hml : c.maxLocals = ls.size := hml9.trans hl.1.symm
      refine lv_iconst (v := 1) hx hb dL_star_21 (by decide) ?_
      exact ke_ui hx hb hr hlk hS dL_star_22 ⟨hk.symm, f, ho, Or.inl ⟨(by rw [hk]; decide), hw⟩⟩
    · refine k_c2 ht (by decide) (by decide) (by decide) hown hG hX wC_L_13 hN.1 wC_L_15 wCa_is hce hcv hcl ?_
      refine lv_astore (lv' := [(7, .ref q9), (0, .ref (ad 0)), (1, .int ra), (2, .int ph), (3, .int sp), (4, .int of), (5, .int dr), (6, .ref oo)]) hx hb dL_star_23 hl (by decide) rfl (fun ls hl => ?_)
      have hml : c.maxLocals = ls.size := hml9.trans hl.1.symm
      refine lv_iconst (v := 2) hx hb dL_star_25 (by decide) ?_
      exact ke_ui hx hb hr hlk hS dL_star_26 ⟨hk.symm, f, ho, Or.inl ⟨(by rw [hk]; decide), hw⟩⟩
  · obtain ⟨y0, y1, y2, hw⟩ := hp1
    have ho := kP_keepA ho oq1 (fun h => h.elim hoA (fun h => absurd holt (by omega)))
    refine lv_i2l (v := r.toInt64) hx hb dL_star_14 rfl ?_
    refine k_last hx hb hG ho hS (Or.inl (Or.inr rfl)) dL_star_15 (fun H1 locs f' hf0 ho z1 oq1 hS => ?_)
    have hw := hw.keep (A := fun q => q = oo) (fun q _ h => oq1 q h) (fun q h e => (fun h => (CA.addSt h).elim hoA (fun h => absurd holt (by omega))) ((show q = oo from e) ▸ h))
    refine lv_goto (tgt := 27) hx hb dL_star_16 (by decide) ?_
    refine lv_iconst (v := 0) hx hb dL_star_27 (by decide) ?_
    exact ke_ui hx hb hr hlk hS dL_star_28 ⟨y0.symm, f', ho, Or.inr ⟨r, hf0, y0, y1, y2, hw⟩⟩
theorem cfL_push : CFw yL_push cL_push 5 [(0, 10, 13, 21), (0, 10, 17, 13)] 4 := by unfold CFw; decide +kernel
set_option maxHeartbeats 4000000 in
set_option maxRecDepth 100000 in
theorem c_L_push (l : Launch) (hlf : l.stackTraces = false) (D : va_G) (cy : Nat → ClassId) (ad : Nat → Nat) (ns nt nr : Nat) (hL : LB ns nt nr) (M : Nat → Nat → Int32) (V : SX) (hA : AI ad ns nt nr) (x b : Int32) (oo : Nat) (f : Nat → Int64) (hoA : ¬ CA ad ns nt nr oo) : Met l yL_push [.codeWith yL_push cL_push 5 (some .int) [(0, 10, 13, 21), (0, 10, 17, 13)]] ({ frames := 7, cells := 1, slots := 6, locals := 105 } : Room) (PL D cy [.ref (ad 0), .int x, .int b, .ref oo] (fun H => (CW D cy ad ns nt nr M V H ∧ oL D cy oo f H))) (UQi (fun q => CA ad ns nt nr q ∨ q = oo) (fun r9 H => r9 = (kPush ns x b) ∧ ∃ f' : Nat → Int64, oL D cy oo f' H ∧ ((¬ (kPush ns x b) = 0 ∧ CW D cy ad ns nt nr M V H) ∨ ∃ r : Int32, f' 0 = r.toInt64 ∧ kPush ns x b = 0 ∧ ∃ i, i < ns ∧ x = nI i ∧ r = pFMod (M (10 + i) 2 + b) 48 ∧ CW D cy ad ns nt nr (mset M (10 + i) (upd (M (10 + i)) 2 (pFMod (M (10 + i) 2 + b) 48))) V H))) 1 6 (fun q => CA ad ns nt nr q ∨ q = oo) := by
  refine k_bodyL (by decide +kernel) (Nat.le_of_ble_eq_true rfl) ?_
  intro p e s m below meth c ls hx hb hml hown hr hlk hl hG hI hX hZ hAW hN ht
  have hml9 : c.maxLocals = 5 := hml.trans hl.1
  have hS : va_S (fun q => CA ad ns nt nr q ∨ q = oo) s.heap s.heap [] := va_S.rf
  obtain ⟨hw, ho⟩ := hI
  have holt : oo < s.heap.size := (ho 0 _ rfl).lt
  have hl : lv_has ls 5 [(0, .ref (ad 0)), (1, .int x), (2, .int b), (3, .ref oo)] := hl
  refine lv_aload_n hx hb dL_push_0 rfl (lv_at hl 3 rfl) ?_
  refine lv_iconst (v := 0) hx hb dL_push_1 (by decide) ?_
  refine lv_aload_n hx hb dL_push_2 rfl (lv_at hl 0 rfl) ?_
  refine lv_iload_n hx hb dL_push_3 rfl (lv_at hl 1 rfl) ?_
  refine lv_iload_n hx hb dL_push_4 rfl (lv_at hl 2 rfl) ?_
  refine kx_ui (kx_V (As := [.int x, .int b]) (rest := [.int 0, .ref oo]) hx hb hml hown hG (c_X6_push l hlf D cy ad ns nt nr hL M V hA x b) cf_X6_push wM_L_17 (PX.preV hG hX hZ hw.o rfl hw) ⟨rfl, rfl, Nat.le_of_ble_eq_true rfl, Nat.le_of_ble_eq_true rfl⟩ rfl rfl (Nat.le_of_ble_eq_true rfl) ⟨Nat.le_of_ble_eq_true rfl, Nat.le_of_ble_eq_true rfl⟩ dL_push_5) hS (fun q h => Or.inl h) (fun E9 ce q9 H1 locs hpE z1 oq1 hS hce hcv hcl => ?_) (fun r H1 locs hp1 z1 oq1 hS => ?_)
  · have ho := kP_keepA ho oq1 (fun h => h)
    have hw := hw.keep oq1 (fun q _ h => h)
    rcases hpE with ⟨hk, rfl⟩ | ⟨hk, rfl⟩
    · refine k_c1 ht (by decide) (by decide) hown hG hX wC_L_21 wCa_ib hce hcv hcl ?_
      refine lv_astore (lv' := [(4, .ref q9), (0, .ref (ad 0)), (1, .int x), (2, .int b), (3, .ref oo)]) hx hb dL_push_13 hl (by decide) rfl (fun ls hl => ?_)
      have hml : c.maxLocals = ls.size := hml9.trans hl.1.symm
      refine lv_iconst (v := 1) hx hb dL_push_15 (by decide) ?_
      exact ke_ui hx hb hr hlk hS dL_push_16 ⟨hk.symm, f, ho, Or.inl ⟨(by rw [hk]; decide), hw⟩⟩
    · refine k_c2 ht (by decide) (by decide) (by decide) hown hG hX wC_L_21 hN.2.1 wC_L_13 wCa_ia hce hcv hcl ?_
      refine lv_astore (lv' := [(4, .ref q9), (0, .ref (ad 0)), (1, .int x), (2, .int b), (3, .ref oo)]) hx hb dL_push_17 hl (by decide) rfl (fun ls hl => ?_)
      have hml : c.maxLocals = ls.size := hml9.trans hl.1.symm
      refine lv_iconst (v := 2) hx hb dL_push_19 (by decide) ?_
      exact ke_ui hx hb hr hlk hS dL_push_20 ⟨hk.symm, f, ho, Or.inl ⟨(by rw [hk]; decide), hw⟩⟩
  · obtain ⟨y0, i, y1, y2, y3, hw⟩ := hp1
    have ho := kP_keepA ho oq1 (fun h => hoA h)
    have hoN := hoA
    refine lv_i2l (v := r.toInt64) hx hb dL_push_8 rfl ?_
    refine k_last hx hb hG ho hS (Or.inr rfl) dL_push_9 (fun H1 locs f' hf0 ho z1 oq1 hS => ?_)
    have hw := hw.keep (A := fun q => q = oo) (fun q _ h => oq1 q h) (fun q h e => hoA (e ▸ h))
    refine lv_goto (tgt := 21) hx hb dL_push_10 (by decide) ?_
    refine lv_iconst (v := 0) hx hb dL_push_21 (by decide) ?_
    exact ke_ui hx hb hr hlk hS dL_push_22 ⟨y0.symm, f', ho, Or.inr ⟨r, hf0, y0, i, y1, y2, y3, hw⟩⟩
theorem cfL_jump : CFw yL_jump cL_jump 6 [(0, 12, 15, 21), (0, 12, 19, 13)] 5 := by unfold CFw; decide +kernel
set_option maxHeartbeats 4000000 in
set_option maxRecDepth 100000 in
theorem c_L_jump (l : Launch) (hlf : l.stackTraces = false) (D : va_G) (cy : Nat → ClassId) (ad : Nat → Nat) (ns nt nr : Nat) (hL : LB ns nt nr) (M : Nat → Nat → Int32) (V : SX) (hA : AI ad ns nt nr) (x o d : Int32) (oo : Nat) (f : Nat → Int64) (hoA : ¬ CA ad ns nt nr oo) : Met l yL_jump [.codeWith yL_jump cL_jump 6 (some .int) [(0, 12, 15, 21), (0, 12, 19, 13)]] ({ frames := 7, cells := 1, slots := 6, locals := 106 } : Room) (PL D cy [.ref (ad 0), .int x, .int o, .int d, .ref oo] (fun H => (CW D cy ad ns nt nr M V H ∧ oL D cy oo f H))) (UQi (fun q => CA ad ns nt nr q ∨ q = oo) (fun r9 H => r9 = (kJump ns x o d) ∧ ∃ f' : Nat → Int64, oL D cy oo f' H ∧ ((¬ (kJump ns x o d) = 0 ∧ CW D cy ad ns nt nr M V H) ∨ ∃ r : Int32, f' 0 = r.toInt64 ∧ kJump ns x o d = 0 ∧ ∃ i, i < ns ∧ x = nI i ∧ r = rClock (M (10 + i)) o 3 ∧ CW D cy ad ns nt nr (mset M (10 + i) (upd (rClock (M (10 + i)) o) 4 d)) V H))) 1 6 (fun q => CA ad ns nt nr q ∨ q = oo) := by
  refine k_bodyL (by decide +kernel) (Nat.le_of_ble_eq_true rfl) ?_
  intro p e s m below meth c ls hx hb hml hown hr hlk hl hG hI hX hZ hAW hN ht
  have hml9 : c.maxLocals = 6 := hml.trans hl.1
  have hS : va_S (fun q => CA ad ns nt nr q ∨ q = oo) s.heap s.heap [] := va_S.rf
  obtain ⟨hw, ho⟩ := hI
  have holt : oo < s.heap.size := (ho 0 _ rfl).lt
  have hl : lv_has ls 6 [(0, .ref (ad 0)), (1, .int x), (2, .int o), (3, .int d), (4, .ref oo)] := hl
  refine lv_aload hx hb dL_jump_0 (lv_at hl 4 rfl) ?_
  refine lv_iconst (v := 0) hx hb dL_jump_2 (by decide) ?_
  refine lv_aload_n hx hb dL_jump_3 rfl (lv_at hl 0 rfl) ?_
  refine lv_iload_n hx hb dL_jump_4 rfl (lv_at hl 1 rfl) ?_
  refine lv_iload_n hx hb dL_jump_5 rfl (lv_at hl 2 rfl) ?_
  refine lv_iload_n hx hb dL_jump_6 rfl (lv_at hl 3 rfl) ?_
  refine kx_ui (kx_V (As := [.int x, .int o, .int d]) (rest := [.int 0, .ref oo]) hx hb hml hown hG (c_X6_jump l hlf D cy ad ns nt nr hL M V hA x o d) cf_X6_jump wM_L_23 (PX.preV hG hX hZ hw.o rfl hw) ⟨rfl, rfl, Nat.le_of_ble_eq_true rfl, Nat.le_of_ble_eq_true rfl⟩ rfl rfl (Nat.le_of_ble_eq_true rfl) ⟨Nat.le_of_ble_eq_true rfl, Nat.le_of_ble_eq_true rfl⟩ dL_jump_7) hS (fun q h => Or.inl h) (fun E9 ce q9 H1 locs hpE z1 oq1 hS hce hcv hcl => ?_) (fun r H1 locs hp1 z1 oq1 hS => ?_)
  · have ho := kP_keepA ho oq1 (fun h => h)
    have hw := hw.keep oq1 (fun q _ h => h)
    rcases hpE with ⟨hk, rfl⟩ | ⟨hk, rfl⟩
    · refine k_c1 ht (by decide) (by decide) hown hG hX wC_L_21 wCa_ib hce hcv hcl ?_
      refine lv_astore (lv' := [(5, .ref q9), (0, .ref (ad 0)), (1, .int x), (2, .int o), (3, .int d), (4, .ref oo)]) hx hb dL_jump_15 hl (by decide) rfl (fun ls hl => ?_)
      have hml : c.maxLocals = ls.size := hml9.trans hl.1.symm
      refine lv_iconst (v := 1) hx hb dL_jump_17 (by decide) ?_
      exact ke_ui hx hb hr hlk hS dL_jump_18 ⟨hk.symm, f, ho, Or.inl ⟨(by rw [hk]; decide), hw⟩⟩
    · refine k_c2 ht (by decide) (by decide) (by decide) hown hG hX wC_L_21 hN.2.1 wC_L_13 wCa_ia hce hcv hcl ?_
      refine lv_astore (lv' := [(5, .ref q9), (0, .ref (ad 0)), (1, .int x), (2, .int o), (3, .int d), (4, .ref oo)]) hx hb dL_jump_19 hl (by decide) rfl (fun ls hl => ?_)
      have hml : c.maxLocals = ls.size := hml9.trans hl.1.symm
      refine lv_iconst (v := 2) hx hb dL_jump_21 (by decide) ?_
      exact ke_ui hx hb hr hlk hS dL_jump_22 ⟨hk.symm, f, ho, Or.inl ⟨(by rw [hk]; decide), hw⟩⟩
  · obtain ⟨y0, i, y1, y2, y3, hw⟩ := hp1
    have ho := kP_keepA ho oq1 (fun h => hoA h)
    have hoN := hoA
    refine lv_i2l (v := r.toInt64) hx hb dL_jump_10 rfl ?_
    refine k_last hx hb hG ho hS (Or.inr rfl) dL_jump_11 (fun H1 locs f' hf0 ho z1 oq1 hS => ?_)
    have hw := hw.keep (A := fun q => q = oo) (fun q _ h => oq1 q h) (fun q h e => hoA (e ▸ h))
    refine lv_goto (tgt := 23) hx hb dL_jump_12 (by decide) ?_
    refine lv_iconst (v := 0) hx hb dL_jump_23 (by decide) ?_
    exact ke_ui hx hb hr hlk hS dL_jump_24 ⟨y0.symm, f', ho, Or.inr ⟨r, hf0, y0, i, y1, y2, y3, hw⟩⟩
theorem cfL_health : CFw yL_health cL_health 5 [(0, 17, 20, 21)] 4 := by unfold CFw; decide +kernel
set_option maxHeartbeats 4000000 in
set_option maxRecDepth 100000 in
theorem c_L_health (l : Launch) (hlf : l.stackTraces = false) (D : va_G) (cy : Nat → ClassId) (ad : Nat → Nat) (ns nt nr : Nat) (hL : LB ns nt nr) (M : Nat → Nat → Int32) (V : SX) (hA : AI ad ns nt nr) (x : Int32) (b : Bool) (h01 : ∀ i, i < ns → ∃ b, M (10 + i) 5 = bI b) (oo : Nat) (f : Nat → Int64) (hoA : ¬ CA ad ns nt nr oo) : Met l yL_health [.codeWith yL_health cL_health 5 (some .int) [(0, 17, 20, 21)]] ({ frames := 7, cells := 1, slots := 6, locals := 105 } : Room) (PL D cy [.ref (ad 0), .int x, .int (bI b), .ref oo] (fun H => (CW D cy ad ns nt nr M V H ∧ oL D cy oo f H))) (UQi (fun q => CA ad ns nt nr q ∨ q = oo) (fun r9 H => r9 = (kOne ns x) ∧ ∃ f' : Nat → Int64, oL D cy oo f' H ∧ ((¬ (kOne ns x) = 0 ∧ CW D cy ad ns nt nr M V H) ∨ ∃ r : Int32, f' 0 = (if r = 0 then 0 else 1) ∧ kOne ns x = 0 ∧ ∃ i, i < ns ∧ x = nI i ∧ r = M (10 + i) 5 ∧ CW D cy ad ns nt nr (mset M (10 + i) (upd (M (10 + i)) 5 (bI b))) V H))) 1 6 (fun q => CA ad ns nt nr q ∨ q = oo) := by
  refine k_bodyL (by decide +kernel) (Nat.le_of_ble_eq_true rfl) ?_
  intro p e s m below meth c ls hx hb hml hown hr hlk hl hG hI hX hZ hAW hN ht
  have hml9 : c.maxLocals = 5 := hml.trans hl.1
  have hS : va_S (fun q => CA ad ns nt nr q ∨ q = oo) s.heap s.heap [] := va_S.rf
  obtain ⟨hw, ho⟩ := hI
  have holt : oo < s.heap.size := (ho 0 _ rfl).lt
  have hl : lv_has ls 5 [(0, .ref (ad 0)), (1, .int x), (2, .int (bI b)), (3, .ref oo)] := hl
  refine lv_aload_n hx hb dL_health_0 rfl (lv_at hl 3 rfl) ?_
  refine lv_iconst (v := 0) hx hb dL_health_1 (by decide) ?_
  refine lv_aload_n hx hb dL_health_2 rfl (lv_at hl 0 rfl) ?_
  refine lv_iload_n hx hb dL_health_3 rfl (lv_at hl 1 rfl) ?_
  refine lv_iload_n hx hb dL_health_4 rfl (lv_at hl 2 rfl) ?_
  refine kx_ui (kx_V (As := [.int x, .int (bI b)]) (rest := [.int 0, .ref oo]) hx hb hml hown hG (c_X6_health l hlf D cy ad ns nt nr hL M V hA x b h01) cf_X6_health wM_L_27 (PX.preV hG hX hZ hw.o rfl hw) ⟨rfl, rfl, Nat.le_of_ble_eq_true rfl, Nat.le_of_ble_eq_true rfl⟩ rfl rfl (Nat.le_of_ble_eq_true rfl) ⟨Nat.le_of_ble_eq_true rfl, Nat.le_of_ble_eq_true rfl⟩ dL_health_5) hS (fun q h => Or.inl h) (fun E9 ce q9 H1 locs hpE z1 oq1 hS hce hcv hcl => ?_) (fun r H1 locs hp1 z1 oq1 hS => ?_)
  · have ho := kP_keepA ho oq1 (fun h => h)
    have hw := hw.keep oq1 (fun q _ h => h)
    rcases hpE with ⟨hk, rfl⟩ | ⟨hk, rfl⟩
    · refine k_c1 ht (by decide) (by decide) hown hG hX wC_L_21 wCa_ib hce hcv hcl ?_
      refine lv_astore (lv' := [(4, .ref q9), (0, .ref (ad 0)), (1, .int x), (2, .int (bI b)), (3, .ref oo)]) hx hb dL_health_20 hl (by decide) rfl (fun ls hl => ?_)
      have hml : c.maxLocals = ls.size := hml9.trans hl.1.symm
      refine lv_iconst (v := 1) hx hb dL_health_22 (by decide) ?_
      exact ke_ui hx hb hr hlk hS dL_health_23 ⟨hk.symm, f, ho, Or.inl ⟨(by rw [hk]; decide), hw⟩⟩
    · exact absurd hk kOne_2
  · obtain ⟨y0, i, y1, y2, y3, hw⟩ := hp1
    have ho := kP_keepA ho oq1 (fun h => hoA h)
    have hoN := hoA
    refine lv_if_eq (tgt := 15) hx hb dL_health_8 (by decide) (fun c9 => ?_) (fun c9 => ?_)
    · refine lv_lconst (v := 0) hx hb dL_health_15 (by decide) ?_
      refine k_last hx hb hG ho hS (Or.inr rfl) dL_health_16 (fun H1 locs f' hf0 ho z1 oq1 hS => ?_)
      have hw := hw.keep (A := fun q => q = oo) (fun q _ h => oq1 q h) (fun q h e => hoA (e ▸ h))
      refine lv_goto (tgt := 24) hx hb dL_health_17 (by decide) ?_
      refine lv_iconst (v := 0) hx hb dL_health_24 (by decide) ?_
      exact ke_ui hx hb hr hlk hS dL_health_25 ⟨y0.symm, f', ho, Or.inr ⟨r, (by rw [hf0, if_pos c9]), y0, i, y1, y2, y3, hw⟩⟩
    · refine lv_lconst (v := 1) hx hb dL_health_11 (by decide) ?_
      refine lv_goto (tgt := 16) hx hb dL_health_12 (by decide) ?_
      refine k_last hx hb hG ho hS (Or.inr rfl) dL_health_16 (fun H1 locs f' hf0 ho z1 oq1 hS => ?_)
      have hw := hw.keep (A := fun q => q = oo) (fun q _ h => oq1 q h) (fun q h e => hoA (e ▸ h))
      refine lv_goto (tgt := 24) hx hb dL_health_17 (by decide) ?_
      refine lv_iconst (v := 0) hx hb dL_health_24 (by decide) ?_
      exact ke_ui hx hb hr hlk hS dL_health_25 ⟨y0.symm, f', ho, Or.inr ⟨r, (by rw [hf0, if_neg c9]), y0, i, y1, y2, y3, hw⟩⟩
theorem cfL_station : CFw yL_station cL_station 5 [(0, 10, 13, 13), (0, 10, 17, 15)] 4 := by unfold CFw; decide +kernel
set_option maxHeartbeats 4000000 in
set_option maxRecDepth 100000 in
theorem c_L_station (l : Launch) (hlf : l.stackTraces = false) (D : va_G) (cy : Nat → ClassId) (ad : Nat → Nat) (ns nt nr : Nat) (hL : LB ns nt nr) (M : Nat → Nat → Int32) (V : SX) (hA : AI ad ns nt nr) (x d : Int32) (w9 : Nat) (oo : Nat) (f : Nat → Int64) (hoA : ¬ CA ad ns nt nr oo) : Met l yL_station [.codeWith yL_station cL_station 5 (some .int) [(0, 10, 13, 13), (0, 10, 17, 15)]] ({ frames := 7, cells := 1, slots := 6, locals := 104 } : Room) (PL D cy [.ref (ad 0), .int x, .int d, .ref oo] (fun H => (CW D cy ad ns nt nr M V H ∧ oL D cy oo f H) ∧ H.size = w9)) (UQi (fun q => (CA ad ns nt nr q ∨ q = oo) ∨ w9 ≤ q) (fun r9 H => r9 = (kStn nt x d) ∧ ∃ f' : Nat → Int64, oL D cy oo f' H ∧ ((¬ (kStn nt x d) = 0 ∧ CW D cy ad ns nt nr M V H) ∨ ∃ r : Int32, f' 0 = r.toInt64 ∧ kStn nt x d = 0 ∧ nt < 3 ∧ r = nI nt ∧ CW D cy (adA ad (20 + nt) w9) ns (nt + 1) nr (mset M (20 + nt) (snNew x d)) V H))) 1 6 (fun q => (CA ad ns nt nr q ∨ q = oo) ∨ w9 ≤ q) := by
  refine k_bodyL (by decide +kernel) (Nat.le_of_ble_eq_true rfl) ?_
  intro p e s m below meth c ls hx hb hml hown hr hlk hl hG hI hX hZ hAW hN ht
  have hml9 : c.maxLocals = 5 := hml.trans hl.1
  have hS : va_S (fun q => (CA ad ns nt nr q ∨ q = oo) ∨ w9 ≤ q) s.heap s.heap [] := va_S.rf
  obtain ⟨⟨hw, ho⟩, hsz⟩ := hI
  have holt : oo < s.heap.size := (ho 0 _ rfl).lt
  have hl : lv_has ls 5 [(0, .ref (ad 0)), (1, .int x), (2, .int d), (3, .ref oo)] := hl
  refine lv_aload_n hx hb dL_station_0 rfl (lv_at hl 3 rfl) ?_
  refine lv_iconst (v := 0) hx hb dL_station_1 (by decide) ?_
  refine lv_aload_n hx hb dL_station_2 rfl (lv_at hl 0 rfl) ?_
  refine lv_iload_n hx hb dL_station_3 rfl (lv_at hl 1 rfl) ?_
  refine lv_iload_n hx hb dL_station_4 rfl (lv_at hl 2 rfl) ?_
  refine kx_ui (kx_V (As := [.int x, .int d]) (rest := [.int 0, .ref oo]) hx hb hml hown hG (c_X6_station l hlf D cy ad ns nt nr hL M V hA x d w9) cf_X6_station wM_L_31 (PX2.preV hG hX hZ hAW hw.o rfl ⟨hw, hsz⟩) ⟨rfl, rfl, Nat.le_of_ble_eq_true rfl, Nat.le_of_ble_eq_true rfl⟩ rfl rfl (Nat.le_of_ble_eq_true rfl) ⟨Nat.le_of_ble_eq_true rfl, Nat.le_of_ble_eq_true rfl⟩ dL_station_5) hS (fun q h => h.elim (fun h => Or.inl (Or.inl h)) Or.inr) (fun E9 ce q9 H1 locs hpE z1 oq1 hS hce hcv hcl => ?_) (fun r H1 locs hp1 z1 oq1 hS => ?_)
  · have ho := kP_keepA ho oq1 (fun h => h)
    have hw := hw.keep oq1 (fun q _ h => h)
    rcases hpE with ⟨hk, rfl⟩ | ⟨hk, rfl⟩
    · refine k_c1 ht (by decide) (by decide) hown hG hX wC_L_13 wCa_ia hce hcv hcl ?_
      refine lv_astore (lv' := [(4, .ref q9), (0, .ref (ad 0)), (1, .int x), (2, .int d), (3, .ref oo)]) hx hb dL_station_13 hl (by decide) rfl (fun ls hl => ?_)
      have hml : c.maxLocals = ls.size := hml9.trans hl.1.symm
      refine lv_iconst (v := 1) hx hb dL_station_15 (by decide) ?_
      exact ke_ui hx hb hr hlk hS dL_station_16 ⟨hk.symm, f, ho, Or.inl ⟨(by rw [hk]; decide), hw⟩⟩
    · refine k_c2 ht (by decide) (by decide) (by decide) hown hG hX wC_L_13 hN.1 wC_L_15 wCa_is hce hcv hcl ?_
      refine lv_astore (lv' := [(4, .ref q9), (0, .ref (ad 0)), (1, .int x), (2, .int d), (3, .ref oo)]) hx hb dL_station_17 hl (by decide) rfl (fun ls hl => ?_)
      have hml : c.maxLocals = ls.size := hml9.trans hl.1.symm
      refine lv_iconst (v := 2) hx hb dL_station_19 (by decide) ?_
      exact ke_ui hx hb hr hlk hS dL_station_20 ⟨hk.symm, f, ho, Or.inl ⟨(by rw [hk]; decide), hw⟩⟩
  · obtain ⟨y0, y1, y2, hw⟩ := hp1
    have ho := kP_keepA ho oq1 (fun h => h.elim hoA (fun h => absurd holt (by omega)))
    refine lv_i2l (v := r.toInt64) hx hb dL_station_8 rfl ?_
    refine k_last hx hb hG ho hS (Or.inl (Or.inr rfl)) dL_station_9 (fun H1 locs f' hf0 ho z1 oq1 hS => ?_)
    have hw := hw.keep (A := fun q => q = oo) (fun q _ h => oq1 q h) (fun q h e => (fun h => (CA.addSn h).elim hoA (fun h => absurd holt (by omega))) ((show q = oo from e) ▸ h))
    refine lv_goto (tgt := 21) hx hb dL_station_10 (by decide) ?_
    refine lv_iconst (v := 0) hx hb dL_station_21 (by decide) ?_
    exact ke_ui hx hb hr hlk hS dL_station_22 ⟨y0.symm, f', ho, Or.inr ⟨r, hf0, y0, y1, y2, hw⟩⟩
theorem cfL_listen : CFw yL_listen cL_listen 5 [(0, 10, 13, 21), (0, 10, 17, 15)] 4 := by unfold CFw; decide +kernel
set_option maxHeartbeats 4000000 in
set_option maxRecDepth 100000 in
theorem c_L_listen (l : Launch) (hlf : l.stackTraces = false) (D : va_G) (cy : Nat → ClassId) (ad : Nat → Nat) (ns nt nr : Nat) (hL : LB ns nt nr) (M : Nat → Nat → Int32) (V : SX) (hA : AI ad ns nt nr) (t x : Int32) (oo : Nat) (f : Nat → Int64) (hoA : ¬ CA ad ns nt nr oo) : Met l yL_listen [.codeWith yL_listen cL_listen 5 (some .int) [(0, 10, 13, 21), (0, 10, 17, 15)]] ({ frames := 7, cells := 1, slots := 6, locals := 106 } : Room) (PL D cy [.ref (ad 0), .int t, .int x, .ref oo] (fun H => (CW D cy ad ns nt nr M V H ∧ oL D cy oo f H))) (UQi (fun q => CA ad ns nt nr q ∨ q = oo) (fun r9 H => r9 = (kListen M nt ns t x) ∧ ∃ f' : Nat → Int64, oL D cy oo f' H ∧ ((¬ (kListen M nt ns t x) = 0 ∧ CW D cy ad ns nt nr M V H) ∨ ∃ r : Int32, f' 0 = r.toInt64 ∧ kListen M nt ns t x = 0 ∧ ∃ i j, i < nt ∧ j < ns ∧ t = nI i ∧ x = nI j ∧ r = rTake (M (10 + j)) (M 0 0) (M (20 + i) 1) 6 ∧ CW D cy ad ns nt nr (mset M (10 + j) (rTake (M (10 + j)) (M 0 0) (M (20 + i) 1))) V H))) 1 6 (fun q => CA ad ns nt nr q ∨ q = oo) := by
  refine k_bodyL (by decide +kernel) (Nat.le_of_ble_eq_true rfl) ?_
  intro p e s m below meth c ls hx hb hml hown hr hlk hl hG hI hX hZ hAW hN ht
  have hml9 : c.maxLocals = 5 := hml.trans hl.1
  have hS : va_S (fun q => CA ad ns nt nr q ∨ q = oo) s.heap s.heap [] := va_S.rf
  obtain ⟨hw, ho⟩ := hI
  have holt : oo < s.heap.size := (ho 0 _ rfl).lt
  have hl : lv_has ls 5 [(0, .ref (ad 0)), (1, .int t), (2, .int x), (3, .ref oo)] := hl
  refine lv_aload_n hx hb dL_listen_0 rfl (lv_at hl 3 rfl) ?_
  refine lv_iconst (v := 0) hx hb dL_listen_1 (by decide) ?_
  refine lv_aload_n hx hb dL_listen_2 rfl (lv_at hl 0 rfl) ?_
  refine lv_iload_n hx hb dL_listen_3 rfl (lv_at hl 1 rfl) ?_
  refine lv_iload_n hx hb dL_listen_4 rfl (lv_at hl 2 rfl) ?_
  refine kx_ui (kx_V (As := [.int t, .int x]) (rest := [.int 0, .ref oo]) hx hb hml hown hG (c_X6_listen l hlf D cy ad ns nt nr hL M V hA t x) cf_X6_listen wM_L_34 (PX.preV hG hX hZ hw.o rfl hw) ⟨rfl, rfl, Nat.le_of_ble_eq_true rfl, Nat.le_of_ble_eq_true rfl⟩ rfl rfl (Nat.le_of_ble_eq_true rfl) ⟨Nat.le_of_ble_eq_true rfl, Nat.le_of_ble_eq_true rfl⟩ dL_listen_5) hS (fun q h => Or.inl h) (fun E9 ce q9 H1 locs hpE z1 oq1 hS hce hcv hcl => ?_) (fun r H1 locs hp1 z1 oq1 hS => ?_)
  · have ho := kP_keepA ho oq1 (fun h => h)
    have hw := hw.keep oq1 (fun q _ h => h)
    rcases hpE with ⟨hk, rfl⟩ | ⟨hk, rfl⟩
    · refine k_c1 ht (by decide) (by decide) hown hG hX wC_L_21 wCa_ib hce hcv hcl ?_
      refine lv_astore (lv' := [(4, .ref q9), (0, .ref (ad 0)), (1, .int t), (2, .int x), (3, .ref oo)]) hx hb dL_listen_13 hl (by decide) rfl (fun ls hl => ?_)
      have hml : c.maxLocals = ls.size := hml9.trans hl.1.symm
      refine lv_iconst (v := 1) hx hb dL_listen_15 (by decide) ?_
      exact ke_ui hx hb hr hlk hS dL_listen_16 ⟨hk.symm, f, ho, Or.inl ⟨(by rw [hk]; decide), hw⟩⟩
    · refine k_c2 ht (by decide) (by decide) (by decide) hown hG hX wC_L_21 hN.2.2 wC_L_15 wCa_is hce hcv hcl ?_
      refine lv_astore (lv' := [(4, .ref q9), (0, .ref (ad 0)), (1, .int t), (2, .int x), (3, .ref oo)]) hx hb dL_listen_17 hl (by decide) rfl (fun ls hl => ?_)
      have hml : c.maxLocals = ls.size := hml9.trans hl.1.symm
      refine lv_iconst (v := 2) hx hb dL_listen_19 (by decide) ?_
      exact ke_ui hx hb hr hlk hS dL_listen_20 ⟨hk.symm, f, ho, Or.inl ⟨(by rw [hk]; decide), hw⟩⟩
  · obtain ⟨y0, i, j, y1, y2, y3, y4, y5, hw⟩ := hp1
    have ho := kP_keepA ho oq1 (fun h => hoA h)
    have hoN := hoA
    refine lv_i2l (v := r.toInt64) hx hb dL_listen_8 rfl ?_
    refine k_last hx hb hG ho hS (Or.inr rfl) dL_listen_9 (fun H1 locs f' hf0 ho z1 oq1 hS => ?_)
    have hw := hw.keep (A := fun q => q = oo) (fun q _ h => oq1 q h) (fun q h e => hoA (e ▸ h))
    refine lv_goto (tgt := 21) hx hb dL_listen_10 (by decide) ?_
    refine lv_iconst (v := 0) hx hb dL_listen_21 (by decide) ?_
    exact ke_ui hx hb hr hlk hS dL_listen_22 ⟨y0.symm, f', ho, Or.inr ⟨r, hf0, y0, i, j, y1, y2, y3, y4, y5, hw⟩⟩
theorem cfL_receiver : CFw yL_receiver cL_receiver 6 [(0, 12, 15, 13), (0, 12, 19, 15)] 5 := by unfold CFw; decide +kernel
set_option maxHeartbeats 4000000 in
set_option maxRecDepth 100000 in
theorem c_L_receiver (l : Launch) (hlf : l.stackTraces = false) (D : va_G) (cy : Nat → ClassId) (ad : Nat → Nat) (ns nt nr : Nat) (hL : LB ns nt nr) (M : Nat → Nat → Int32) (V : SX) (hA : AI ad ns nt nr) (x y b : Int32) (w9 : Nat) (oo : Nat) (f : Nat → Int64) (hoA : ¬ CA ad ns nt nr oo) : Met l yL_receiver [.codeWith yL_receiver cL_receiver 6 (some .int) [(0, 12, 15, 13), (0, 12, 19, 15)]] ({ frames := 7, cells := 11, slots := 122, locals := 105 } : Room) (PL D cy [.ref (ad 0), .int x, .int y, .int b, .ref oo] (fun H => (CW D cy ad ns nt nr M V H ∧ oL D cy oo f H) ∧ H.size = w9)) (UQi (fun q => (CA ad ns nt nr q ∨ q = oo) ∨ w9 ≤ q) (fun r9 H => r9 = (kRec nr x y b) ∧ ∃ f' : Nat → Int64, oL D cy oo f' H ∧ ((¬ (kRec nr x y b) = 0 ∧ CW D cy ad ns nt nr M V H) ∨ ∃ r : Int32, f' 0 = r.toInt64 ∧ kRec nr x y b = 0 ∧ nr < 3 ∧ r = nI nr ∧ CW D cy (adR ad nr w9) ns nt (nr + 1) (pNewR M nr (vNew (nI nr) x y b)) V H))) 11 122 (fun q => (CA ad ns nt nr q ∨ q = oo) ∨ w9 ≤ q) := by
  refine k_bodyL (by decide +kernel) (Nat.le_of_ble_eq_true rfl) ?_
  intro p e s m below meth c ls hx hb hml hown hr hlk hl hG hI hX hZ hAW hN ht
  have hml9 : c.maxLocals = 6 := hml.trans hl.1
  have hS : va_S (fun q => (CA ad ns nt nr q ∨ q = oo) ∨ w9 ≤ q) s.heap s.heap [] := va_S.rf
  obtain ⟨⟨hw, ho⟩, hsz⟩ := hI
  have holt : oo < s.heap.size := (ho 0 _ rfl).lt
  have hl : lv_has ls 6 [(0, .ref (ad 0)), (1, .int x), (2, .int y), (3, .int b), (4, .ref oo)] := hl
  refine lv_aload hx hb dL_receiver_0 (lv_at hl 4 rfl) ?_
  refine lv_iconst (v := 0) hx hb dL_receiver_2 (by decide) ?_
  refine lv_aload_n hx hb dL_receiver_3 rfl (lv_at hl 0 rfl) ?_
  refine lv_iload_n hx hb dL_receiver_4 rfl (lv_at hl 1 rfl) ?_
  refine lv_iload_n hx hb dL_receiver_5 rfl (lv_at hl 2 rfl) ?_
  refine lv_iload_n hx hb dL_receiver_6 rfl (lv_at hl 3 rfl) ?_
  refine kx_ui (kx_V (As := [.int x, .int y, .int b]) (rest := [.int 0, .ref oo]) hx hb hml hown hG (c_X6_receiver l hlf D cy ad ns nt nr hL M V hA x y b w9) cf_X6_receiver wM_L_37 (PX2.preV hG hX hZ hAW hw.o rfl ⟨hw, hsz⟩) ⟨rfl, rfl, Nat.le_of_ble_eq_true rfl, Nat.le_of_ble_eq_true rfl⟩ rfl rfl (Nat.le_of_ble_eq_true rfl) ⟨Nat.le_of_ble_eq_true rfl, Nat.le_of_ble_eq_true rfl⟩ dL_receiver_7) hS (fun q h => h.elim (fun h => Or.inl (Or.inl h)) Or.inr) (fun E9 ce q9 H1 locs hpE z1 oq1 hS hce hcv hcl => ?_) (fun r H1 locs hp1 z1 oq1 hS => ?_)
  · have ho := kP_keepA ho oq1 (fun h => h)
    have hw := hw.keep oq1 (fun q _ h => h)
    rcases hpE with ⟨hk, rfl⟩ | ⟨hk, rfl⟩
    · refine k_c1 ht (by decide) (by decide) hown hG hX wC_L_13 wCa_ia hce hcv hcl ?_
      refine lv_astore (lv' := [(5, .ref q9), (0, .ref (ad 0)), (1, .int x), (2, .int y), (3, .int b), (4, .ref oo)]) hx hb dL_receiver_15 hl (by decide) rfl (fun ls hl => ?_)
      have hml : c.maxLocals = ls.size := hml9.trans hl.1.symm
      refine lv_iconst (v := 1) hx hb dL_receiver_17 (by decide) ?_
      exact ke_ui hx hb hr hlk hS dL_receiver_18 ⟨hk.symm, f, ho, Or.inl ⟨(by rw [hk]; decide), hw⟩⟩
    · refine k_c2 ht (by decide) (by decide) (by decide) hown hG hX wC_L_13 hN.1 wC_L_15 wCa_is hce hcv hcl ?_
      refine lv_astore (lv' := [(5, .ref q9), (0, .ref (ad 0)), (1, .int x), (2, .int y), (3, .int b), (4, .ref oo)]) hx hb dL_receiver_19 hl (by decide) rfl (fun ls hl => ?_)
      have hml : c.maxLocals = ls.size := hml9.trans hl.1.symm
      refine lv_iconst (v := 2) hx hb dL_receiver_21 (by decide) ?_
      exact ke_ui hx hb hr hlk hS dL_receiver_22 ⟨hk.symm, f, ho, Or.inl ⟨(by rw [hk]; decide), hw⟩⟩
  · obtain ⟨y0, y1, y2, hw⟩ := hp1
    have ho := kP_keepA ho oq1 (fun h => h.elim hoA (fun h => absurd holt (by omega)))
    refine lv_i2l (v := r.toInt64) hx hb dL_receiver_10 rfl ?_
    refine k_last hx hb hG ho hS (Or.inl (Or.inr rfl)) dL_receiver_11 (fun H1 locs f' hf0 ho z1 oq1 hS => ?_)
    have hw := hw.keep (A := fun q => q = oo) (fun q _ h => oq1 q h) (fun q h e => (fun h => (CA.addRc y1 h).elim hoA (fun h => absurd holt (by omega))) ((show q = oo from e) ▸ h))
    refine lv_goto (tgt := 23) hx hb dL_receiver_12 (by decide) ?_
    refine lv_iconst (v := 0) hx hb dL_receiver_23 (by decide) ?_
    exact ke_ui hx hb hr hlk hS dL_receiver_24 ⟨y0.symm, f', ho, Or.inr ⟨r, hf0, y0, y1, y2, hw⟩⟩
theorem cfL_go : CFw yL_go cL_go 6 [(0, 12, 15, 21), (0, 12, 19, 13)] 5 := by unfold CFw; decide +kernel
set_option maxHeartbeats 4000000 in
set_option maxRecDepth 100000 in
theorem c_L_go (l : Launch) (hlf : l.stackTraces = false) (D : va_G) (cy : Nat → ClassId) (ad : Nat → Nat) (ns nt nr : Nat) (hL : LB ns nt nr) (M : Nat → Nat → Int32) (V : SX) (hA : AI ad ns nt nr) (x u v : Int32) (oo : Nat) (f : Nat → Int64) (hoA : ¬ CA ad ns nt nr oo) : Met l yL_go [.codeWith yL_go cL_go 6 (some .int) [(0, 12, 15, 21), (0, 12, 19, 13)]] ({ frames := 7, cells := 1, slots := 6, locals := 107 } : Room) (PL D cy [.ref (ad 0), .int x, .int u, .int v, .ref oo] (fun H => (CW D cy ad ns nt nr M V H ∧ oL D cy oo f H))) (UQi (fun q => CA ad ns nt nr q ∨ q = oo) (fun r9 H => r9 = (kGo nr x u v) ∧ ∃ f' : Nat → Int64, oL D cy oo f' H ∧ ((¬ (kGo nr x u v) = 0 ∧ CW D cy ad ns nt nr M V H) ∨ ∃ r : Int32, f' 0 = r.toInt64 ∧ kGo nr x u v = 0 ∧ ∃ i, i < nr ∧ x = nI i ∧ r = pRange (M (30 + i) 4) (M (30 + i) 5) u v ∧ CW D cy ad ns nt nr (mset M (30 + i) (upd (upd (M (30 + i)) 4 u) 5 v)) V H))) 1 6 (fun q => CA ad ns nt nr q ∨ q = oo) := by
  refine k_bodyL (by decide +kernel) (Nat.le_of_ble_eq_true rfl) ?_
  intro p e s m below meth c ls hx hb hml hown hr hlk hl hG hI hX hZ hAW hN ht
  have hml9 : c.maxLocals = 6 := hml.trans hl.1
  have hS : va_S (fun q => CA ad ns nt nr q ∨ q = oo) s.heap s.heap [] := va_S.rf
  obtain ⟨hw, ho⟩ := hI
  have holt : oo < s.heap.size := (ho 0 _ rfl).lt
  have hl : lv_has ls 6 [(0, .ref (ad 0)), (1, .int x), (2, .int u), (3, .int v), (4, .ref oo)] := hl
  refine lv_aload hx hb dL_go_0 (lv_at hl 4 rfl) ?_
  refine lv_iconst (v := 0) hx hb dL_go_2 (by decide) ?_
  refine lv_aload_n hx hb dL_go_3 rfl (lv_at hl 0 rfl) ?_
  refine lv_iload_n hx hb dL_go_4 rfl (lv_at hl 1 rfl) ?_
  refine lv_iload_n hx hb dL_go_5 rfl (lv_at hl 2 rfl) ?_
  refine lv_iload_n hx hb dL_go_6 rfl (lv_at hl 3 rfl) ?_
  refine kx_ui (kx_V (As := [.int x, .int u, .int v]) (rest := [.int 0, .ref oo]) hx hb hml hown hG (c_X6_go l hlf D cy ad ns nt nr hL M V hA x u v) cf_X6_go wM_L_40 (PX.preV hG hX hZ hw.o rfl hw) ⟨rfl, rfl, Nat.le_of_ble_eq_true rfl, Nat.le_of_ble_eq_true rfl⟩ rfl rfl (Nat.le_of_ble_eq_true rfl) ⟨Nat.le_of_ble_eq_true rfl, Nat.le_of_ble_eq_true rfl⟩ dL_go_7) hS (fun q h => Or.inl h) (fun E9 ce q9 H1 locs hpE z1 oq1 hS hce hcv hcl => ?_) (fun r H1 locs hp1 z1 oq1 hS => ?_)
  · have ho := kP_keepA ho oq1 (fun h => h)
    have hw := hw.keep oq1 (fun q _ h => h)
    rcases hpE with ⟨hk, rfl⟩ | ⟨hk, rfl⟩
    · refine k_c1 ht (by decide) (by decide) hown hG hX wC_L_21 wCa_ib hce hcv hcl ?_
      refine lv_astore (lv' := [(5, .ref q9), (0, .ref (ad 0)), (1, .int x), (2, .int u), (3, .int v), (4, .ref oo)]) hx hb dL_go_15 hl (by decide) rfl (fun ls hl => ?_)
      have hml : c.maxLocals = ls.size := hml9.trans hl.1.symm
      refine lv_iconst (v := 1) hx hb dL_go_17 (by decide) ?_
      exact ke_ui hx hb hr hlk hS dL_go_18 ⟨hk.symm, f, ho, Or.inl ⟨(by rw [hk]; decide), hw⟩⟩
    · refine k_c2 ht (by decide) (by decide) (by decide) hown hG hX wC_L_21 hN.2.1 wC_L_13 wCa_ia hce hcv hcl ?_
      refine lv_astore (lv' := [(5, .ref q9), (0, .ref (ad 0)), (1, .int x), (2, .int u), (3, .int v), (4, .ref oo)]) hx hb dL_go_19 hl (by decide) rfl (fun ls hl => ?_)
      have hml : c.maxLocals = ls.size := hml9.trans hl.1.symm
      refine lv_iconst (v := 2) hx hb dL_go_21 (by decide) ?_
      exact ke_ui hx hb hr hlk hS dL_go_22 ⟨hk.symm, f, ho, Or.inl ⟨(by rw [hk]; decide), hw⟩⟩
  · obtain ⟨y0, i, y1, y2, y3, hw⟩ := hp1
    have ho := kP_keepA ho oq1 (fun h => hoA h)
    have hoN := hoA
    refine lv_i2l (v := r.toInt64) hx hb dL_go_10 rfl ?_
    refine k_last hx hb hG ho hS (Or.inr rfl) dL_go_11 (fun H1 locs f' hf0 ho z1 oq1 hS => ?_)
    have hw := hw.keep (A := fun q => q = oo) (fun q _ h => oq1 q h) (fun q h e => hoA (e ▸ h))
    refine lv_goto (tgt := 23) hx hb dL_go_12 (by decide) ?_
    refine lv_iconst (v := 0) hx hb dL_go_23 (by decide) ?_
    exact ke_ui hx hb hr hlk hS dL_go_24 ⟨y0.symm, f', ho, Or.inr ⟨r, hf0, y0, i, y1, y2, y3, hw⟩⟩
theorem cfL_hills : CFw yL_hills cL_hills 6 [(0, 12, 15, 21), (0, 12, 19, 13)] 5 := by unfold CFw; decide +kernel
set_option maxHeartbeats 4000000 in
set_option maxRecDepth 100000 in
theorem c_L_hills (l : Launch) (hlf : l.stackTraces = false) (D : va_G) (cy : Nat → ClassId) (ad : Nat → Nat) (ns nt nr : Nat) (hL : LB ns nt nr) (M : Nat → Nat → Int32) (V : SX) (hA : AI ad ns nt nr) (x lf rt : Int32) (oo : Nat) (f : Nat → Int64) (hoA : ¬ CA ad ns nt nr oo) : Met l yL_hills [.codeWith yL_hills cL_hills 6 (some .int) [(0, 12, 15, 21), (0, 12, 19, 13)]] ({ frames := 7, cells := 1, slots := 6, locals := 113 } : Room) (PL D cy [.ref (ad 0), .int x, .int lf, .int rt, .ref oo] (fun H => (CW D cy ad ns nt nr M V H ∧ oL D cy oo f H))) (UQi (fun q => CA ad ns nt nr q ∨ q = oo) (fun r9 H => r9 = (kHills nr x lf rt) ∧ ∃ f' : Nat → Int64, oL D cy oo f' H ∧ ((¬ (kHills nr x lf rt) = 0 ∧ CW D cy ad ns nt nr M V H) ∨ ∃ r : Int32, f' 0 = r.toInt64 ∧ kHills nr x lf rt = 0 ∧ ∃ i, i < nr ∧ x = nI i ∧ r = pBits (pSet (upd (upd (M (30 + i)) 6 lf) 7 rt) M 0 ns) ∧ CW D cy ad ns nt nr (mset M (30 + i) (upd (upd (M (30 + i)) 6 lf) 7 rt)) V H))) 1 6 (fun q => CA ad ns nt nr q ∨ q = oo) := by
  refine k_bodyL (by decide +kernel) (Nat.le_of_ble_eq_true rfl) ?_
  intro p e s m below meth c ls hx hb hml hown hr hlk hl hG hI hX hZ hAW hN ht
  have hml9 : c.maxLocals = 6 := hml.trans hl.1
  have hS : va_S (fun q => CA ad ns nt nr q ∨ q = oo) s.heap s.heap [] := va_S.rf
  obtain ⟨hw, ho⟩ := hI
  have holt : oo < s.heap.size := (ho 0 _ rfl).lt
  have hl : lv_has ls 6 [(0, .ref (ad 0)), (1, .int x), (2, .int lf), (3, .int rt), (4, .ref oo)] := hl
  refine lv_aload hx hb dL_hills_0 (lv_at hl 4 rfl) ?_
  refine lv_iconst (v := 0) hx hb dL_hills_2 (by decide) ?_
  refine lv_aload_n hx hb dL_hills_3 rfl (lv_at hl 0 rfl) ?_
  refine lv_iload_n hx hb dL_hills_4 rfl (lv_at hl 1 rfl) ?_
  refine lv_iload_n hx hb dL_hills_5 rfl (lv_at hl 2 rfl) ?_
  refine lv_iload_n hx hb dL_hills_6 rfl (lv_at hl 3 rfl) ?_
  refine kx_ui (kx_V (As := [.int x, .int lf, .int rt]) (rest := [.int 0, .ref oo]) hx hb hml hown hG (c_X6_hills l hlf D cy ad ns nt nr hL M V hA x lf rt) cf_X6_hills wM_L_43 (PX.preV hG hX hZ hw.o rfl hw) ⟨rfl, rfl, Nat.le_of_ble_eq_true rfl, Nat.le_of_ble_eq_true rfl⟩ rfl rfl (Nat.le_of_ble_eq_true rfl) ⟨Nat.le_of_ble_eq_true rfl, Nat.le_of_ble_eq_true rfl⟩ dL_hills_7) hS (fun q h => Or.inl h) (fun E9 ce q9 H1 locs hpE z1 oq1 hS hce hcv hcl => ?_) (fun r H1 locs hp1 z1 oq1 hS => ?_)
  · have ho := kP_keepA ho oq1 (fun h => h)
    have hw := hw.keep oq1 (fun q _ h => h)
    rcases hpE with ⟨hk, rfl⟩ | ⟨hk, rfl⟩
    · refine k_c1 ht (by decide) (by decide) hown hG hX wC_L_21 wCa_ib hce hcv hcl ?_
      refine lv_astore (lv' := [(5, .ref q9), (0, .ref (ad 0)), (1, .int x), (2, .int lf), (3, .int rt), (4, .ref oo)]) hx hb dL_hills_15 hl (by decide) rfl (fun ls hl => ?_)
      have hml : c.maxLocals = ls.size := hml9.trans hl.1.symm
      refine lv_iconst (v := 1) hx hb dL_hills_17 (by decide) ?_
      exact ke_ui hx hb hr hlk hS dL_hills_18 ⟨hk.symm, f, ho, Or.inl ⟨(by rw [hk]; decide), hw⟩⟩
    · refine k_c2 ht (by decide) (by decide) (by decide) hown hG hX wC_L_21 hN.2.1 wC_L_13 wCa_ia hce hcv hcl ?_
      refine lv_astore (lv' := [(5, .ref q9), (0, .ref (ad 0)), (1, .int x), (2, .int lf), (3, .int rt), (4, .ref oo)]) hx hb dL_hills_19 hl (by decide) rfl (fun ls hl => ?_)
      have hml : c.maxLocals = ls.size := hml9.trans hl.1.symm
      refine lv_iconst (v := 2) hx hb dL_hills_21 (by decide) ?_
      exact ke_ui hx hb hr hlk hS dL_hills_22 ⟨hk.symm, f, ho, Or.inl ⟨(by rw [hk]; decide), hw⟩⟩
  · obtain ⟨y0, i, y1, y2, y3, hw⟩ := hp1
    have ho := kP_keepA ho oq1 (fun h => hoA h)
    have hoN := hoA
    refine lv_i2l (v := r.toInt64) hx hb dL_hills_10 rfl ?_
    refine k_last hx hb hG ho hS (Or.inr rfl) dL_hills_11 (fun H1 locs f' hf0 ho z1 oq1 hS => ?_)
    have hw := hw.keep (A := fun q => q = oo) (fun q _ h => oq1 q h) (fun q h e => hoA (e ▸ h))
    refine lv_goto (tgt := 23) hx hb dL_hills_12 (by decide) ?_
    refine lv_iconst (v := 0) hx hb dL_hills_23 (by decide) ?_
    exact ke_ui hx hb hr hlk hS dL_hills_24 ⟨y0.symm, f', ho, Or.inr ⟨r, hf0, y0, i, y1, y2, y3, hw⟩⟩
theorem cfL_air : CFw yL_air cL_air 6 [(0, 12, 15, 21), (0, 12, 19, 13)] 5 := by unfold CFw; decide +kernel
set_option maxHeartbeats 4000000 in
set_option maxRecDepth 100000 in
theorem c_L_air (l : Launch) (hlf : l.stackTraces = false) (D : va_G) (cy : Nat → ClassId) (ad : Nat → Nat) (ns nt nr : Nat) (hL : LB ns nt nr) (M : Nat → Nat → Int32) (V : SX) (hA : AI ad ns nt nr) (x io : Int32) (b : Bool) (oo : Nat) (f : Nat → Int64) (hoA : ¬ CA ad ns nt nr oo) : Met l yL_air [.codeWith yL_air cL_air 6 (some .int) [(0, 12, 15, 21), (0, 12, 19, 13)]] ({ frames := 7, cells := 1, slots := 6, locals := 107 } : Room) (PL D cy [.ref (ad 0), .int x, .int io, .int (bI b), .ref oo] (fun H => (CW D cy ad ns nt nr M V H ∧ oL D cy oo f H))) (UQi (fun q => CA ad ns nt nr q ∨ q = oo) (fun r9 H => r9 = (kRng nr x io 0 9) ∧ ∃ f' : Nat → Int64, oL D cy oo f' H ∧ ((¬ (kRng nr x io 0 9) = 0 ∧ CW D cy ad ns nt nr M V H) ∨ ∃ r : Int32, f' 0 = r.toInt64 ∧ kRng nr x io 0 9 = 0 ∧ ∃ i, i < nr ∧ x = nI i ∧ r = M (30 + i) 8 ∧ CW D cy ad ns nt nr (mset M (30 + i) (upd (upd (M (30 + i)) 8 io) 9 (bI b))) V H))) 1 6 (fun q => CA ad ns nt nr q ∨ q = oo) := by
  refine k_bodyL (by decide +kernel) (Nat.le_of_ble_eq_true rfl) ?_
  intro p e s m below meth c ls hx hb hml hown hr hlk hl hG hI hX hZ hAW hN ht
  have hml9 : c.maxLocals = 6 := hml.trans hl.1
  have hS : va_S (fun q => CA ad ns nt nr q ∨ q = oo) s.heap s.heap [] := va_S.rf
  obtain ⟨hw, ho⟩ := hI
  have holt : oo < s.heap.size := (ho 0 _ rfl).lt
  have hl : lv_has ls 6 [(0, .ref (ad 0)), (1, .int x), (2, .int io), (3, .int (bI b)), (4, .ref oo)] := hl
  refine lv_aload hx hb dL_air_0 (lv_at hl 4 rfl) ?_
  refine lv_iconst (v := 0) hx hb dL_air_2 (by decide) ?_
  refine lv_aload_n hx hb dL_air_3 rfl (lv_at hl 0 rfl) ?_
  refine lv_iload_n hx hb dL_air_4 rfl (lv_at hl 1 rfl) ?_
  refine lv_iload_n hx hb dL_air_5 rfl (lv_at hl 2 rfl) ?_
  refine lv_iload_n hx hb dL_air_6 rfl (lv_at hl 3 rfl) ?_
  refine kx_ui (kx_V (As := [.int x, .int io, .int (bI b)]) (rest := [.int 0, .ref oo]) hx hb hml hown hG (c_X6_air l hlf D cy ad ns nt nr hL M V hA x io b) cf_X6_air wM_L_46 (PX.preV hG hX hZ hw.o rfl hw) ⟨rfl, rfl, Nat.le_of_ble_eq_true rfl, Nat.le_of_ble_eq_true rfl⟩ rfl rfl (Nat.le_of_ble_eq_true rfl) ⟨Nat.le_of_ble_eq_true rfl, Nat.le_of_ble_eq_true rfl⟩ dL_air_7) hS (fun q h => Or.inl h) (fun E9 ce q9 H1 locs hpE z1 oq1 hS hce hcv hcl => ?_) (fun r H1 locs hp1 z1 oq1 hS => ?_)
  · have ho := kP_keepA ho oq1 (fun h => h)
    have hw := hw.keep oq1 (fun q _ h => h)
    rcases hpE with ⟨hk, rfl⟩ | ⟨hk, rfl⟩
    · refine k_c1 ht (by decide) (by decide) hown hG hX wC_L_21 wCa_ib hce hcv hcl ?_
      refine lv_astore (lv' := [(5, .ref q9), (0, .ref (ad 0)), (1, .int x), (2, .int io), (3, .int (bI b)), (4, .ref oo)]) hx hb dL_air_15 hl (by decide) rfl (fun ls hl => ?_)
      have hml : c.maxLocals = ls.size := hml9.trans hl.1.symm
      refine lv_iconst (v := 1) hx hb dL_air_17 (by decide) ?_
      exact ke_ui hx hb hr hlk hS dL_air_18 ⟨hk.symm, f, ho, Or.inl ⟨(by rw [hk]; decide), hw⟩⟩
    · refine k_c2 ht (by decide) (by decide) (by decide) hown hG hX wC_L_21 hN.2.1 wC_L_13 wCa_ia hce hcv hcl ?_
      refine lv_astore (lv' := [(5, .ref q9), (0, .ref (ad 0)), (1, .int x), (2, .int io), (3, .int (bI b)), (4, .ref oo)]) hx hb dL_air_19 hl (by decide) rfl (fun ls hl => ?_)
      have hml : c.maxLocals = ls.size := hml9.trans hl.1.symm
      refine lv_iconst (v := 2) hx hb dL_air_21 (by decide) ?_
      exact ke_ui hx hb hr hlk hS dL_air_22 ⟨hk.symm, f, ho, Or.inl ⟨(by rw [hk]; decide), hw⟩⟩
  · obtain ⟨y0, i, y1, y2, y3, hw⟩ := hp1
    have ho := kP_keepA ho oq1 (fun h => hoA h)
    have hoN := hoA
    refine lv_i2l (v := r.toInt64) hx hb dL_air_10 rfl ?_
    refine k_last hx hb hG ho hS (Or.inr rfl) dL_air_11 (fun H1 locs f' hf0 ho z1 oq1 hS => ?_)
    have hw := hw.keep (A := fun q => q = oo) (fun q _ h => oq1 q h) (fun q h e => hoA (e ▸ h))
    refine lv_goto (tgt := 23) hx hb dL_air_12 (by decide) ?_
    refine lv_iconst (v := 0) hx hb dL_air_23 (by decide) ?_
    exact ke_ui hx hb hr hlk hS dL_air_24 ⟨y0.symm, f', ho, Or.inr ⟨r, hf0, y0, i, y1, y2, y3, hw⟩⟩
theorem cfL_alert : CFw yL_alert cL_alert 5 [(0, 10, 13, 21), (0, 10, 17, 13)] 4 := by unfold CFw; decide +kernel
set_option maxHeartbeats 4000000 in
set_option maxRecDepth 100000 in
theorem c_L_alert (l : Launch) (hlf : l.stackTraces = false) (D : va_G) (cy : Nat → ClassId) (ad : Nat → Nat) (ns nt nr : Nat) (hL : LB ns nt nr) (M : Nat → Nat → Int32) (V : SX) (hA : AI ad ns nt nr) (x w : Int32) (oo : Nat) (f : Nat → Int64) (hoA : ¬ CA ad ns nt nr oo) : Met l yL_alert [.codeWith yL_alert cL_alert 5 (some .int) [(0, 10, 13, 21), (0, 10, 17, 13)]] ({ frames := 7, cells := 1, slots := 6, locals := 105 } : Room) (PL D cy [.ref (ad 0), .int x, .int w, .ref oo] (fun H => (CW D cy ad ns nt nr M V H ∧ oL D cy oo f H))) (UQi (fun q => CA ad ns nt nr q ∨ q = oo) (fun r9 H => r9 = (kRng nr x w 1 24) ∧ ∃ f' : Nat → Int64, oL D cy oo f' H ∧ ((¬ (kRng nr x w 1 24) = 0 ∧ CW D cy ad ns nt nr M V H) ∨ ∃ r : Int32, f' 0 = r.toInt64 ∧ kRng nr x w 1 24 = 0 ∧ ∃ i, i < nr ∧ x = nI i ∧ r = M (30 + i) 10 ∧ CW D cy ad ns nt nr (mset M (30 + i) (upd (M (30 + i)) 10 w)) V H))) 1 6 (fun q => CA ad ns nt nr q ∨ q = oo) := by
  refine k_bodyL (by decide +kernel) (Nat.le_of_ble_eq_true rfl) ?_
  intro p e s m below meth c ls hx hb hml hown hr hlk hl hG hI hX hZ hAW hN ht
  have hml9 : c.maxLocals = 5 := hml.trans hl.1
  have hS : va_S (fun q => CA ad ns nt nr q ∨ q = oo) s.heap s.heap [] := va_S.rf
  obtain ⟨hw, ho⟩ := hI
  have holt : oo < s.heap.size := (ho 0 _ rfl).lt
  have hl : lv_has ls 5 [(0, .ref (ad 0)), (1, .int x), (2, .int w), (3, .ref oo)] := hl
  refine lv_aload_n hx hb dL_alert_0 rfl (lv_at hl 3 rfl) ?_
  refine lv_iconst (v := 0) hx hb dL_alert_1 (by decide) ?_
  refine lv_aload_n hx hb dL_alert_2 rfl (lv_at hl 0 rfl) ?_
  refine lv_iload_n hx hb dL_alert_3 rfl (lv_at hl 1 rfl) ?_
  refine lv_iload_n hx hb dL_alert_4 rfl (lv_at hl 2 rfl) ?_
  refine kx_ui (kx_V (As := [.int x, .int w]) (rest := [.int 0, .ref oo]) hx hb hml hown hG (c_X6_alert l hlf D cy ad ns nt nr hL M V hA x w) cf_X6_alert wM_L_50 (PX.preV hG hX hZ hw.o rfl hw) ⟨rfl, rfl, Nat.le_of_ble_eq_true rfl, Nat.le_of_ble_eq_true rfl⟩ rfl rfl (Nat.le_of_ble_eq_true rfl) ⟨Nat.le_of_ble_eq_true rfl, Nat.le_of_ble_eq_true rfl⟩ dL_alert_5) hS (fun q h => Or.inl h) (fun E9 ce q9 H1 locs hpE z1 oq1 hS hce hcv hcl => ?_) (fun r H1 locs hp1 z1 oq1 hS => ?_)
  · have ho := kP_keepA ho oq1 (fun h => h)
    have hw := hw.keep oq1 (fun q _ h => h)
    rcases hpE with ⟨hk, rfl⟩ | ⟨hk, rfl⟩
    · refine k_c1 ht (by decide) (by decide) hown hG hX wC_L_21 wCa_ib hce hcv hcl ?_
      refine lv_astore (lv' := [(4, .ref q9), (0, .ref (ad 0)), (1, .int x), (2, .int w), (3, .ref oo)]) hx hb dL_alert_13 hl (by decide) rfl (fun ls hl => ?_)
      have hml : c.maxLocals = ls.size := hml9.trans hl.1.symm
      refine lv_iconst (v := 1) hx hb dL_alert_15 (by decide) ?_
      exact ke_ui hx hb hr hlk hS dL_alert_16 ⟨hk.symm, f, ho, Or.inl ⟨(by rw [hk]; decide), hw⟩⟩
    · refine k_c2 ht (by decide) (by decide) (by decide) hown hG hX wC_L_21 hN.2.1 wC_L_13 wCa_ia hce hcv hcl ?_
      refine lv_astore (lv' := [(4, .ref q9), (0, .ref (ad 0)), (1, .int x), (2, .int w), (3, .ref oo)]) hx hb dL_alert_17 hl (by decide) rfl (fun ls hl => ?_)
      have hml : c.maxLocals = ls.size := hml9.trans hl.1.symm
      refine lv_iconst (v := 2) hx hb dL_alert_19 (by decide) ?_
      exact ke_ui hx hb hr hlk hS dL_alert_20 ⟨hk.symm, f, ho, Or.inl ⟨(by rw [hk]; decide), hw⟩⟩
  · obtain ⟨y0, i, y1, y2, y3, hw⟩ := hp1
    have ho := kP_keepA ho oq1 (fun h => hoA h)
    have hoN := hoA
    refine lv_i2l (v := r.toInt64) hx hb dL_alert_8 rfl ?_
    refine k_last hx hb hG ho hS (Or.inr rfl) dL_alert_9 (fun H1 locs f' hf0 ho z1 oq1 hS => ?_)
    have hw := hw.keep (A := fun q => q = oo) (fun q _ h => oq1 q h) (fun q h e => hoA (e ▸ h))
    refine lv_goto (tgt := 21) hx hb dL_alert_10 (by decide) ?_
    refine lv_iconst (v := 0) hx hb dL_alert_21 (by decide) ?_
    exact ke_ui hx hb hr hlk hS dL_alert_22 ⟨y0.symm, f', ho, Or.inr ⟨r, hf0, y0, i, y1, y2, y3, hw⟩⟩
theorem cfL_spoof : CFw yL_spoof cL_spoof 5 [(0, 10, 13, 21), (0, 10, 17, 13)] 4 := by unfold CFw; decide +kernel
set_option maxHeartbeats 4000000 in
set_option maxRecDepth 100000 in
theorem c_L_spoof (l : Launch) (hlf : l.stackTraces = false) (D : va_G) (cy : Nat → ClassId) (ad : Nat → Nat) (ns nt nr : Nat) (hL : LB ns nt nr) (M : Nat → Nat → Int32) (V : SX) (hA : AI ad ns nt nr) (x w : Int32) (oo : Nat) (f : Nat → Int64) (hoA : ¬ CA ad ns nt nr oo) : Met l yL_spoof [.codeWith yL_spoof cL_spoof 5 (some .int) [(0, 10, 13, 21), (0, 10, 17, 13)]] ({ frames := 7, cells := 1, slots := 6, locals := 105 } : Room) (PL D cy [.ref (ad 0), .int x, .int w, .ref oo] (fun H => (CW D cy ad ns nt nr M V H ∧ oL D cy oo f H))) (UQi (fun q => CA ad ns nt nr q ∨ q = oo) (fun r9 H => r9 = (kRng nr x w (-30) 30) ∧ ∃ f' : Nat → Int64, oL D cy oo f' H ∧ ((¬ (kRng nr x w (-30) 30) = 0 ∧ CW D cy ad ns nt nr M V H) ∨ ∃ r : Int32, f' 0 = r.toInt64 ∧ kRng nr x w (-30) 30 = 0 ∧ ∃ i, i < nr ∧ x = nI i ∧ r = M (30 + i) 11 ∧ CW D cy ad ns nt nr (mset M (30 + i) (upd (M (30 + i)) 11 w)) V H))) 1 6 (fun q => CA ad ns nt nr q ∨ q = oo) := by
  refine k_bodyL (by decide +kernel) (Nat.le_of_ble_eq_true rfl) ?_
  intro p e s m below meth c ls hx hb hml hown hr hlk hl hG hI hX hZ hAW hN ht
  have hml9 : c.maxLocals = 5 := hml.trans hl.1
  have hS : va_S (fun q => CA ad ns nt nr q ∨ q = oo) s.heap s.heap [] := va_S.rf
  obtain ⟨hw, ho⟩ := hI
  have holt : oo < s.heap.size := (ho 0 _ rfl).lt
  have hl : lv_has ls 5 [(0, .ref (ad 0)), (1, .int x), (2, .int w), (3, .ref oo)] := hl
  refine lv_aload_n hx hb dL_spoof_0 rfl (lv_at hl 3 rfl) ?_
  refine lv_iconst (v := 0) hx hb dL_spoof_1 (by decide) ?_
  refine lv_aload_n hx hb dL_spoof_2 rfl (lv_at hl 0 rfl) ?_
  refine lv_iload_n hx hb dL_spoof_3 rfl (lv_at hl 1 rfl) ?_
  refine lv_iload_n hx hb dL_spoof_4 rfl (lv_at hl 2 rfl) ?_
  refine kx_ui (kx_V (As := [.int x, .int w]) (rest := [.int 0, .ref oo]) hx hb hml hown hG (c_X6_spoof l hlf D cy ad ns nt nr hL M V hA x w) cf_X6_spoof wM_L_53 (PX.preV hG hX hZ hw.o rfl hw) ⟨rfl, rfl, Nat.le_of_ble_eq_true rfl, Nat.le_of_ble_eq_true rfl⟩ rfl rfl (Nat.le_of_ble_eq_true rfl) ⟨Nat.le_of_ble_eq_true rfl, Nat.le_of_ble_eq_true rfl⟩ dL_spoof_5) hS (fun q h => Or.inl h) (fun E9 ce q9 H1 locs hpE z1 oq1 hS hce hcv hcl => ?_) (fun r H1 locs hp1 z1 oq1 hS => ?_)
  · have ho := kP_keepA ho oq1 (fun h => h)
    have hw := hw.keep oq1 (fun q _ h => h)
    rcases hpE with ⟨hk, rfl⟩ | ⟨hk, rfl⟩
    · refine k_c1 ht (by decide) (by decide) hown hG hX wC_L_21 wCa_ib hce hcv hcl ?_
      refine lv_astore (lv' := [(4, .ref q9), (0, .ref (ad 0)), (1, .int x), (2, .int w), (3, .ref oo)]) hx hb dL_spoof_13 hl (by decide) rfl (fun ls hl => ?_)
      have hml : c.maxLocals = ls.size := hml9.trans hl.1.symm
      refine lv_iconst (v := 1) hx hb dL_spoof_15 (by decide) ?_
      exact ke_ui hx hb hr hlk hS dL_spoof_16 ⟨hk.symm, f, ho, Or.inl ⟨(by rw [hk]; decide), hw⟩⟩
    · refine k_c2 ht (by decide) (by decide) (by decide) hown hG hX wC_L_21 hN.2.1 wC_L_13 wCa_ia hce hcv hcl ?_
      refine lv_astore (lv' := [(4, .ref q9), (0, .ref (ad 0)), (1, .int x), (2, .int w), (3, .ref oo)]) hx hb dL_spoof_17 hl (by decide) rfl (fun ls hl => ?_)
      have hml : c.maxLocals = ls.size := hml9.trans hl.1.symm
      refine lv_iconst (v := 2) hx hb dL_spoof_19 (by decide) ?_
      exact ke_ui hx hb hr hlk hS dL_spoof_20 ⟨hk.symm, f, ho, Or.inl ⟨(by rw [hk]; decide), hw⟩⟩
  · obtain ⟨y0, i, y1, y2, y3, hw⟩ := hp1
    have ho := kP_keepA ho oq1 (fun h => hoA h)
    have hoN := hoA
    refine lv_i2l (v := r.toInt64) hx hb dL_spoof_8 rfl ?_
    refine k_last hx hb hG ho hS (Or.inr rfl) dL_spoof_9 (fun H1 locs f' hf0 ho z1 oq1 hS => ?_)
    have hw := hw.keep (A := fun q => q = oo) (fun q _ h => oq1 q h) (fun q h e => hoA (e ▸ h))
    refine lv_goto (tgt := 21) hx hb dL_spoof_10 (by decide) ?_
    refine lv_iconst (v := 0) hx hb dL_spoof_21 (by decide) ?_
    exact ke_ui hx hb hr hlk hS dL_spoof_22 ⟨y0.symm, f', ho, Or.inr ⟨r, hf0, y0, i, y1, y2, y3, hw⟩⟩
theorem cfL_refer : CFw yL_refer cL_refer 5 [(0, 10, 13, 21), (0, 10, 17, 13)] 4 := by unfold CFw; decide +kernel
set_option maxHeartbeats 4000000 in
set_option maxRecDepth 100000 in
theorem c_L_refer (l : Launch) (hlf : l.stackTraces = false) (D : va_G) (cy : Nat → ClassId) (ad : Nat → Nat) (ns nt nr : Nat) (hL : LB ns nt nr) (M : Nat → Nat → Int32) (V : SX) (hA : AI ad ns nt nr) (x y : Int32) (oo : Nat) (f : Nat → Int64) (hoA : ¬ CA ad ns nt nr oo) : Met l yL_refer [.codeWith yL_refer cL_refer 5 (some .int) [(0, 10, 13, 21), (0, 10, 17, 13)]] ({ frames := 7, cells := 1, slots := 6, locals := 105 } : Room) (PL D cy [.ref (ad 0), .int x, .int y, .ref oo] (fun H => (CW D cy ad ns nt nr M V H ∧ oL D cy oo f H))) (UQi (fun q => CA ad ns nt nr q ∨ q = oo) (fun r9 H => r9 = (kRefer nr x y) ∧ ∃ f' : Nat → Int64, oL D cy oo f' H ∧ ((¬ (kRefer nr x y) = 0 ∧ CW D cy ad ns nt nr M V H) ∨ ∃ r : Int32, f' 0 = r.toInt64 ∧ kRefer nr x y = 0 ∧ ∃ i, i < nr ∧ x = nI i ∧ r = M (30 + i) 12 ∧ CW D cy ad ns nt nr (mset M (30 + i) (upd (M (30 + i)) 12 y)) V H))) 1 6 (fun q => CA ad ns nt nr q ∨ q = oo) := by
  refine k_bodyL (by decide +kernel) (Nat.le_of_ble_eq_true rfl) ?_
  intro p e s m below meth c ls hx hb hml hown hr hlk hl hG hI hX hZ hAW hN ht
  have hml9 : c.maxLocals = 5 := hml.trans hl.1
  have hS : va_S (fun q => CA ad ns nt nr q ∨ q = oo) s.heap s.heap [] := va_S.rf
  obtain ⟨hw, ho⟩ := hI
  have holt : oo < s.heap.size := (ho 0 _ rfl).lt
  have hl : lv_has ls 5 [(0, .ref (ad 0)), (1, .int x), (2, .int y), (3, .ref oo)] := hl
  refine lv_aload_n hx hb dL_refer_0 rfl (lv_at hl 3 rfl) ?_
  refine lv_iconst (v := 0) hx hb dL_refer_1 (by decide) ?_
  refine lv_aload_n hx hb dL_refer_2 rfl (lv_at hl 0 rfl) ?_
  refine lv_iload_n hx hb dL_refer_3 rfl (lv_at hl 1 rfl) ?_
  refine lv_iload_n hx hb dL_refer_4 rfl (lv_at hl 2 rfl) ?_
  refine kx_ui (kx_V (As := [.int x, .int y]) (rest := [.int 0, .ref oo]) hx hb hml hown hG (c_X6_refer l hlf D cy ad ns nt nr hL M V hA x y) cf_X6_refer wM_L_56 (PX.preV hG hX hZ hw.o rfl hw) ⟨rfl, rfl, Nat.le_of_ble_eq_true rfl, Nat.le_of_ble_eq_true rfl⟩ rfl rfl (Nat.le_of_ble_eq_true rfl) ⟨Nat.le_of_ble_eq_true rfl, Nat.le_of_ble_eq_true rfl⟩ dL_refer_5) hS (fun q h => Or.inl h) (fun E9 ce q9 H1 locs hpE z1 oq1 hS hce hcv hcl => ?_) (fun r H1 locs hp1 z1 oq1 hS => ?_)
  · have ho := kP_keepA ho oq1 (fun h => h)
    have hw := hw.keep oq1 (fun q _ h => h)
    rcases hpE with ⟨hk, rfl⟩ | ⟨hk, rfl⟩
    · refine k_c1 ht (by decide) (by decide) hown hG hX wC_L_21 wCa_ib hce hcv hcl ?_
      refine lv_astore (lv' := [(4, .ref q9), (0, .ref (ad 0)), (1, .int x), (2, .int y), (3, .ref oo)]) hx hb dL_refer_13 hl (by decide) rfl (fun ls hl => ?_)
      have hml : c.maxLocals = ls.size := hml9.trans hl.1.symm
      refine lv_iconst (v := 1) hx hb dL_refer_15 (by decide) ?_
      exact ke_ui hx hb hr hlk hS dL_refer_16 ⟨hk.symm, f, ho, Or.inl ⟨(by rw [hk]; decide), hw⟩⟩
    · refine k_c2 ht (by decide) (by decide) (by decide) hown hG hX wC_L_21 hN.2.1 wC_L_13 wCa_ia hce hcv hcl ?_
      refine lv_astore (lv' := [(4, .ref q9), (0, .ref (ad 0)), (1, .int x), (2, .int y), (3, .ref oo)]) hx hb dL_refer_17 hl (by decide) rfl (fun ls hl => ?_)
      have hml : c.maxLocals = ls.size := hml9.trans hl.1.symm
      refine lv_iconst (v := 2) hx hb dL_refer_19 (by decide) ?_
      exact ke_ui hx hb hr hlk hS dL_refer_20 ⟨hk.symm, f, ho, Or.inl ⟨(by rw [hk]; decide), hw⟩⟩
  · obtain ⟨y0, i, y1, y2, y3, hw⟩ := hp1
    have ho := kP_keepA ho oq1 (fun h => hoA h)
    have hoN := hoA
    refine lv_i2l (v := r.toInt64) hx hb dL_refer_8 rfl ?_
    refine k_last hx hb hG ho hS (Or.inr rfl) dL_refer_9 (fun H1 locs f' hf0 ho z1 oq1 hS => ?_)
    have hw := hw.keep (A := fun q => q = oo) (fun q _ h => oq1 q h) (fun q h e => hoA (e ▸ h))
    refine lv_goto (tgt := 21) hx hb dL_refer_10 (by decide) ?_
    refine lv_iconst (v := 0) hx hb dL_refer_21 (by decide) ?_
    exact ke_ui hx hb hr hlk hS dL_refer_22 ⟨y0.symm, f', ho, Or.inr ⟨r, hf0, y0, i, y1, y2, y3, hw⟩⟩
theorem cfL_pass : CFw yL_pass cL_pass 4 [(0, 9, 12, 13)] 3 := by unfold CFw; decide +kernel
set_option maxHeartbeats 4000000 in
set_option maxRecDepth 100000 in
theorem c_L_pass (l : Launch) (hlf : l.stackTraces = false) (D : va_G) (cy : Nat → ClassId) (ad : Nat → Nat) (ns nt nr : Nat) (hL : LB ns nt nr) (M : Nat → Nat → Int32) (V : SX) (hA : AI ad ns nt nr) (n : Int32) (oo : Nat) (f : Nat → Int64) (hoA : ¬ CA ad ns nt nr oo) : Met l yL_pass [.codeWith yL_pass cL_pass 4 (some .int) [(0, 9, 12, 13)]] ({ frames := 7, cells := 1, slots := 6, locals := 128 } : Room) (PL D cy [.ref (ad 0), .int n, .ref oo] (fun H => (CW D cy ad ns nt nr M V H ∧ oL D cy oo f H))) (UQi (fun q => CA ad ns nt nr q ∨ q = oo) (fun r9 H => r9 = (kIn n 1 48) ∧ ∃ f' : Nat → Int64, oL D cy oo f' H ∧ ((¬ (kIn n 1 48) = 0 ∧ CW D cy ad ns nt nr M V H) ∨ ∃ r : Int32, f' 0 = r.toInt64 ∧ kIn n 1 48 = 0 ∧ ∃ k, k ≤ 48 ∧ n = nI k ∧ r = pPassN M ns k 0 0 ∧ CW D cy ad ns nt nr (pPassN M ns k) V H))) 1 6 (fun q => CA ad ns nt nr q ∨ q = oo) := by
  refine k_bodyL (by decide +kernel) (Nat.le_of_ble_eq_true rfl) ?_
  intro p e s m below meth c ls hx hb hml hown hr hlk hl hG hI hX hZ hAW hN ht
  have hml9 : c.maxLocals = 4 := hml.trans hl.1
  have hS : va_S (fun q => CA ad ns nt nr q ∨ q = oo) s.heap s.heap [] := va_S.rf
  obtain ⟨hw, ho⟩ := hI
  have holt : oo < s.heap.size := (ho 0 _ rfl).lt
  have hl : lv_has ls 4 [(0, .ref (ad 0)), (1, .int n), (2, .ref oo)] := hl
  refine lv_aload_n hx hb dL_pass_0 rfl (lv_at hl 2 rfl) ?_
  refine lv_iconst (v := 0) hx hb dL_pass_1 (by decide) ?_
  refine lv_aload_n hx hb dL_pass_2 rfl (lv_at hl 0 rfl) ?_
  refine lv_iload_n hx hb dL_pass_3 rfl (lv_at hl 1 rfl) ?_
  refine kx_ui (kx_V (As := [.int n]) (rest := [.int 0, .ref oo]) hx hb hml hown hG (c_X6_pass l hlf D cy ad ns nt nr hL M V hA n) cf_X6_pass wM_L_59 (PX.preV hG hX hZ hw.o rfl hw) ⟨rfl, rfl, Nat.le_of_ble_eq_true rfl, Nat.le_of_ble_eq_true rfl⟩ rfl rfl (Nat.le_of_ble_eq_true rfl) ⟨Nat.le_of_ble_eq_true rfl, Nat.le_of_ble_eq_true rfl⟩ dL_pass_4) hS (fun q h => Or.inl h) (fun E9 ce q9 H1 locs hpE z1 oq1 hS hce hcv hcl => ?_) (fun r H1 locs hp1 z1 oq1 hS => ?_)
  · have ho := kP_keepA ho oq1 (fun h => h)
    have hw := hw.keep oq1 (fun q _ h => h)
    rcases hpE with ⟨hk, rfl⟩ | ⟨hk, rfl⟩
    · refine k_c1 ht (by decide) (by decide) hown hG hX wC_L_13 wCa_ia hce hcv hcl ?_
      refine lv_astore_n (lv' := [(3, .ref q9), (0, .ref (ad 0)), (1, .int n), (2, .ref oo)]) hx hb dL_pass_12 rfl hl (by decide) rfl (fun ls hl => ?_)
      have hml : c.maxLocals = ls.size := hml9.trans hl.1.symm
      refine lv_iconst (v := 1) hx hb dL_pass_13 (by decide) ?_
      exact ke_ui hx hb hr hlk hS dL_pass_14 ⟨hk.symm, f, ho, Or.inl ⟨(by rw [hk]; decide), hw⟩⟩
    · exact absurd hk kIn_2
  · obtain ⟨y0, k, y1, y2, y3, hw⟩ := hp1
    have ho := kP_keepA ho oq1 (fun h => hoA h)
    have hoN := hoA
    refine lv_i2l (v := r.toInt64) hx hb dL_pass_7 rfl ?_
    refine k_last hx hb hG ho hS (Or.inr rfl) dL_pass_8 (fun H1 locs f' hf0 ho z1 oq1 hS => ?_)
    have hw := hw.keep (A := fun q => q = oo) (fun q _ h => oq1 q h) (fun q h e => hoA (e ▸ h))
    refine lv_goto (tgt := 15) hx hb dL_pass_9 (by decide) ?_
    refine lv_iconst (v := 0) hx hb dL_pass_15 (by decide) ?_
    exact ke_ui hx hb hr hlk hS dL_pass_16 ⟨y0.symm, f', ho, Or.inr ⟨r, hf0, y0, k, y1, y2, y3, hw⟩⟩
theorem cfL_observe : CFw yL_observe cL_observe 4 [(0, 9, 12, 21), (0, 9, 15, 15)] 3 := by unfold CFw; decide +kernel
set_option maxHeartbeats 4000000 in
set_option maxRecDepth 100000 in
theorem c_L_observe (l : Launch) (hlf : l.stackTraces = false) (D : va_G) (cy : Nat → ClassId) (ad : Nat → Nat) (ns nt nr : Nat) (hL : LB ns nt nr) (M : Nat → Nat → Int32) (V : SX) (hA : AI ad ns nt nr) (x : Int32) (hne : ∀ i, i < nr → M (30 + i) 12 ≠ nI i) (oo : Nat) (f : Nat → Int64) (hoA : ¬ CA ad ns nt nr oo) : Met l yL_observe [.codeWith yL_observe cL_observe 4 (some .int) [(0, 9, 12, 21), (0, 9, 15, 15)]] ({ frames := 7, cells := 1, slots := 6, locals := 142 } : Room) (PL D cy [.ref (ad 0), .int x, .ref oo] (fun H => (CW D cy ad ns nt nr M V H ∧ oL D cy oo f H))) (UQi (fun q => CA ad ns nt nr q ∨ q = oo) (fun r9 H => r9 = (kObs M nr x) ∧ ∃ f' : Nat → Int64, oL D cy oo f' H ∧ ((¬ (kObs M nr x) = 0 ∧ CW D cy ad ns nt nr M V H) ∨ ∃ r : Int32, f' 0 = r.toInt64 ∧ kObs M nr x = 0 ∧ ∃ i, i < nr ∧ x = nI i ∧ r = obT M ns nr i V 10 ∧ ∃ V2 : SX, CW D cy ad ns nt nr (mset (obM M ns nr i) (50 + i) (obT M ns nr i V)) V2 H))) 1 6 (fun q => CA ad ns nt nr q ∨ q = oo) := by
  refine k_bodyL (by decide +kernel) (Nat.le_of_ble_eq_true rfl) ?_
  intro p e s m below meth c ls hx hb hml hown hr hlk hl hG hI hX hZ hAW hN ht
  have hml9 : c.maxLocals = 4 := hml.trans hl.1
  have hS : va_S (fun q => CA ad ns nt nr q ∨ q = oo) s.heap s.heap [] := va_S.rf
  obtain ⟨hw, ho⟩ := hI
  have holt : oo < s.heap.size := (ho 0 _ rfl).lt
  have hl : lv_has ls 4 [(0, .ref (ad 0)), (1, .int x), (2, .ref oo)] := hl
  refine lv_aload_n hx hb dL_observe_0 rfl (lv_at hl 2 rfl) ?_
  refine lv_iconst (v := 0) hx hb dL_observe_1 (by decide) ?_
  refine lv_aload_n hx hb dL_observe_2 rfl (lv_at hl 0 rfl) ?_
  refine lv_iload_n hx hb dL_observe_3 rfl (lv_at hl 1 rfl) ?_
  refine kx_ui (kx_V (As := [.int x]) (rest := [.int 0, .ref oo]) hx hb hml hown hG (c_X6_observe l hlf D cy ad ns nt nr hL M V hA x hne) cf_X6_observe wM_L_63 (PX.preV hG hX hZ hw.o rfl hw) ⟨rfl, rfl, Nat.le_of_ble_eq_true rfl, Nat.le_of_ble_eq_true rfl⟩ rfl rfl (Nat.le_of_ble_eq_true rfl) ⟨Nat.le_of_ble_eq_true rfl, Nat.le_of_ble_eq_true rfl⟩ dL_observe_4) hS (fun q h => Or.inl h) (fun E9 ce q9 H1 locs hpE z1 oq1 hS hce hcv hcl => ?_) (fun r H1 locs hp1 z1 oq1 hS => ?_)
  · have ho := kP_keepA ho oq1 (fun h => h)
    have hw := hw.keep oq1 (fun q _ h => h)
    rcases hpE with ⟨hk, rfl⟩ | ⟨hk, rfl⟩
    · refine k_c1 ht (by decide) (by decide) hown hG hX wC_L_21 wCa_ib hce hcv hcl ?_
      refine lv_astore_n (lv' := [(3, .ref q9), (0, .ref (ad 0)), (1, .int x), (2, .ref oo)]) hx hb dL_observe_12 rfl hl (by decide) rfl (fun ls hl => ?_)
      have hml : c.maxLocals = ls.size := hml9.trans hl.1.symm
      refine lv_iconst (v := 1) hx hb dL_observe_13 (by decide) ?_
      exact ke_ui hx hb hr hlk hS dL_observe_14 ⟨hk.symm, f, ho, Or.inl ⟨(by rw [hk]; decide), hw⟩⟩
    · refine k_c2 ht (by decide) (by decide) (by decide) hown hG hX wC_L_21 hN.2.2 wC_L_15 wCa_is hce hcv hcl ?_
      refine lv_astore_n (lv' := [(3, .ref q9), (0, .ref (ad 0)), (1, .int x), (2, .ref oo)]) hx hb dL_observe_15 rfl hl (by decide) rfl (fun ls hl => ?_)
      have hml : c.maxLocals = ls.size := hml9.trans hl.1.symm
      refine lv_iconst (v := 2) hx hb dL_observe_16 (by decide) ?_
      exact ke_ui hx hb hr hlk hS dL_observe_17 ⟨hk.symm, f, ho, Or.inl ⟨(by rw [hk]; decide), hw⟩⟩
  · obtain ⟨y0, i, y1, y2, y3, V2, hw⟩ := hp1
    have ho := kP_keepA ho oq1 (fun h => hoA h)
    have hoN := hoA
    refine lv_i2l (v := r.toInt64) hx hb dL_observe_7 rfl ?_
    refine k_last hx hb hG ho hS (Or.inr rfl) dL_observe_8 (fun H1 locs f' hf0 ho z1 oq1 hS => ?_)
    have hw := hw.keep (A := fun q => q = oo) (fun q _ h => oq1 q h) (fun q h e => hoA (e ▸ h))
    refine lv_goto (tgt := 18) hx hb dL_observe_9 (by decide) ?_
    refine lv_iconst (v := 0) hx hb dL_observe_18 (by decide) ?_
    exact ke_ui hx hb hr hlk hS dL_observe_19 ⟨y0.symm, f', ho, Or.inr ⟨r, hf0, y0, i, y1, y2, y3, V2, hw⟩⟩
theorem cfL_ofStar : CFw yL_ofStar cL_ofStar 5 [(0, 10, 13, 21), (0, 10, 17, 13)] 4 := by unfold CFw; decide +kernel
set_option maxHeartbeats 4000000 in
set_option maxRecDepth 100000 in
theorem c_L_ofStar (l : Launch) (hlf : l.stackTraces = false) (D : va_G) (cy : Nat → ClassId) (ad : Nat → Nat) (ns nt nr : Nat) (hL : LB ns nt nr) (M : Nat → Nat → Int32) (V : SX) (hA : AI ad ns nt nr) (x w : Int32) (oo : Nat) (f : Nat → Int64) (hoA : ¬ CA ad ns nt nr oo) : Met l yL_ofStar [.codeWith yL_ofStar cL_ofStar 5 (some .int) [(0, 10, 13, 21), (0, 10, 17, 13)]] ({ frames := 7, cells := 1, slots := 6, locals := 104 } : Room) (PL D cy [.ref (ad 0), .int x, .int w, .ref oo] (fun H => (CW D cy ad ns nt nr M V H ∧ oL D cy oo f H))) (UQi (fun q => CA ad ns nt nr q ∨ q = oo) (fun r9 H => r9 = (kRng ns x w 0 7) ∧ ∃ f' : Nat → Int64, oL D cy oo f' H ∧ ((¬ (kRng ns x w 0 7) = 0 ∧ CW D cy ad ns nt nr M V H) ∨ ∃ r : Int32, f' 0 = r.toInt64 ∧ kRng ns x w 0 7 = 0 ∧ ∃ i, i < ns ∧ x = nI i ∧ r = pTell (M (10 + i)) w ∧ CW D cy ad ns nt nr M V H))) 1 6 (fun q => CA ad ns nt nr q ∨ q = oo) := by
  refine k_bodyL (by decide +kernel) (Nat.le_of_ble_eq_true rfl) ?_
  intro p e s m below meth c ls hx hb hml hown hr hlk hl hG hI hX hZ hAW hN ht
  have hml9 : c.maxLocals = 5 := hml.trans hl.1
  have hS : va_S (fun q => CA ad ns nt nr q ∨ q = oo) s.heap s.heap [] := va_S.rf
  obtain ⟨hw, ho⟩ := hI
  have holt : oo < s.heap.size := (ho 0 _ rfl).lt
  have hl : lv_has ls 5 [(0, .ref (ad 0)), (1, .int x), (2, .int w), (3, .ref oo)] := hl
  refine lv_aload_n hx hb dL_ofStar_0 rfl (lv_at hl 3 rfl) ?_
  refine lv_iconst (v := 0) hx hb dL_ofStar_1 (by decide) ?_
  refine lv_aload_n hx hb dL_ofStar_2 rfl (lv_at hl 0 rfl) ?_
  refine lv_iload_n hx hb dL_ofStar_3 rfl (lv_at hl 1 rfl) ?_
  refine lv_iload_n hx hb dL_ofStar_4 rfl (lv_at hl 2 rfl) ?_
  refine kx_ui (kx_V (As := [.int x, .int w]) (rest := [.int 0, .ref oo]) hx hb hml hown hG (c_X6_ofStar l hlf D cy ad ns nt nr hL M V hA x w) cf_X6_ofStar wM_L_66 (PX.preV hG hX hZ hw.o rfl hw) ⟨rfl, rfl, Nat.le_of_ble_eq_true rfl, Nat.le_of_ble_eq_true rfl⟩ rfl rfl (Nat.le_of_ble_eq_true rfl) ⟨Nat.le_of_ble_eq_true rfl, Nat.le_of_ble_eq_true rfl⟩ dL_ofStar_5) hS (fun q h => Or.inl h) (fun E9 ce q9 H1 locs hpE z1 oq1 hS hce hcv hcl => ?_) (fun r H1 locs hp1 z1 oq1 hS => ?_)
  · have ho := kP_keepA ho oq1 (fun h => h)
    have hw := hw.keep oq1 (fun q _ h => h)
    rcases hpE with ⟨hk, rfl⟩ | ⟨hk, rfl⟩
    · refine k_c1 ht (by decide) (by decide) hown hG hX wC_L_21 wCa_ib hce hcv hcl ?_
      refine lv_astore (lv' := [(4, .ref q9), (0, .ref (ad 0)), (1, .int x), (2, .int w), (3, .ref oo)]) hx hb dL_ofStar_13 hl (by decide) rfl (fun ls hl => ?_)
      have hml : c.maxLocals = ls.size := hml9.trans hl.1.symm
      refine lv_iconst (v := 1) hx hb dL_ofStar_15 (by decide) ?_
      exact ke_ui hx hb hr hlk hS dL_ofStar_16 ⟨hk.symm, f, ho, Or.inl ⟨(by rw [hk]; decide), hw⟩⟩
    · refine k_c2 ht (by decide) (by decide) (by decide) hown hG hX wC_L_21 hN.2.1 wC_L_13 wCa_ia hce hcv hcl ?_
      refine lv_astore (lv' := [(4, .ref q9), (0, .ref (ad 0)), (1, .int x), (2, .int w), (3, .ref oo)]) hx hb dL_ofStar_17 hl (by decide) rfl (fun ls hl => ?_)
      have hml : c.maxLocals = ls.size := hml9.trans hl.1.symm
      refine lv_iconst (v := 2) hx hb dL_ofStar_19 (by decide) ?_
      exact ke_ui hx hb hr hlk hS dL_ofStar_20 ⟨hk.symm, f, ho, Or.inl ⟨(by rw [hk]; decide), hw⟩⟩
  · obtain ⟨y0, i, y1, y2, y3, hw⟩ := hp1
    have ho := kP_keepA ho oq1 (fun h => hoA h)
    have hoN := hoA
    refine lv_i2l (v := r.toInt64) hx hb dL_ofStar_8 rfl ?_
    refine k_last hx hb hG ho hS (Or.inr rfl) dL_ofStar_9 (fun H1 locs f' hf0 ho z1 oq1 hS => ?_)
    have hw := hw.keep (A := fun q => q = oo) (fun q _ h => oq1 q h) (fun q h e => hoA (e ▸ h))
    refine lv_goto (tgt := 21) hx hb dL_ofStar_10 (by decide) ?_
    refine lv_iconst (v := 0) hx hb dL_ofStar_21 (by decide) ?_
    exact ke_ui hx hb hr hlk hS dL_ofStar_22 ⟨y0.symm, f', ho, Or.inr ⟨r, hf0, y0, i, y1, y2, y3, hw⟩⟩
theorem cfL_message : CFw yL_message cL_message 5 [(0, 10, 13, 21), (0, 10, 17, 13)] 4 := by unfold CFw; decide +kernel
set_option maxHeartbeats 4000000 in
set_option maxRecDepth 100000 in
theorem c_L_message (l : Launch) (hlf : l.stackTraces = false) (D : va_G) (cy : Nat → ClassId) (ad : Nat → Nat) (ns nt nr : Nat) (hL : LB ns nt nr) (M : Nat → Nat → Int32) (V : SX) (hA : AI ad ns nt nr) (x w : Int32) (oo : Nat) (f : Nat → Int64) (hoA : ¬ CA ad ns nt nr oo) : Met l yL_message [.codeWith yL_message cL_message 5 (some .int) [(0, 10, 13, 21), (0, 10, 17, 13)]] ({ frames := 7, cells := 1, slots := 6, locals := 104 } : Room) (PL D cy [.ref (ad 0), .int x, .int w, .ref oo] (fun H => (CW D cy ad ns nt nr M V H ∧ oL D cy oo f H))) (UQi (fun q => CA ad ns nt nr q ∨ q = oo) (fun r9 H => r9 = (kRng ns x w 0 7) ∧ ∃ f' : Nat → Int64, oL D cy oo f' H ∧ ((¬ (kRng ns x w 0 7) = 0 ∧ CW D cy ad ns nt nr M V H) ∨ ∃ r : Int32, f' 0 = r.toInt64 ∧ kRng ns x w 0 7 = 0 ∧ ∃ i, i < ns ∧ x = nI i ∧ r = pTellM (M (10 + i)) w (M 0 0) ∧ CW D cy ad ns nt nr M V H))) 1 6 (fun q => CA ad ns nt nr q ∨ q = oo) := by
  refine k_bodyL (by decide +kernel) (Nat.le_of_ble_eq_true rfl) ?_
  intro p e s m below meth c ls hx hb hml hown hr hlk hl hG hI hX hZ hAW hN ht
  have hml9 : c.maxLocals = 5 := hml.trans hl.1
  have hS : va_S (fun q => CA ad ns nt nr q ∨ q = oo) s.heap s.heap [] := va_S.rf
  obtain ⟨hw, ho⟩ := hI
  have holt : oo < s.heap.size := (ho 0 _ rfl).lt
  have hl : lv_has ls 5 [(0, .ref (ad 0)), (1, .int x), (2, .int w), (3, .ref oo)] := hl
  refine lv_aload_n hx hb dL_message_0 rfl (lv_at hl 3 rfl) ?_
  refine lv_iconst (v := 0) hx hb dL_message_1 (by decide) ?_
  refine lv_aload_n hx hb dL_message_2 rfl (lv_at hl 0 rfl) ?_
  refine lv_iload_n hx hb dL_message_3 rfl (lv_at hl 1 rfl) ?_
  refine lv_iload_n hx hb dL_message_4 rfl (lv_at hl 2 rfl) ?_
  refine kx_ui (kx_V (As := [.int x, .int w]) (rest := [.int 0, .ref oo]) hx hb hml hown hG (c_X6_message l hlf D cy ad ns nt nr hL M V hA x w) cf_X6_message wM_L_69 (PX.preV hG hX hZ hw.o rfl hw) ⟨rfl, rfl, Nat.le_of_ble_eq_true rfl, Nat.le_of_ble_eq_true rfl⟩ rfl rfl (Nat.le_of_ble_eq_true rfl) ⟨Nat.le_of_ble_eq_true rfl, Nat.le_of_ble_eq_true rfl⟩ dL_message_5) hS (fun q h => Or.inl h) (fun E9 ce q9 H1 locs hpE z1 oq1 hS hce hcv hcl => ?_) (fun r H1 locs hp1 z1 oq1 hS => ?_)
  · have ho := kP_keepA ho oq1 (fun h => h)
    have hw := hw.keep oq1 (fun q _ h => h)
    rcases hpE with ⟨hk, rfl⟩ | ⟨hk, rfl⟩
    · refine k_c1 ht (by decide) (by decide) hown hG hX wC_L_21 wCa_ib hce hcv hcl ?_
      refine lv_astore (lv' := [(4, .ref q9), (0, .ref (ad 0)), (1, .int x), (2, .int w), (3, .ref oo)]) hx hb dL_message_13 hl (by decide) rfl (fun ls hl => ?_)
      have hml : c.maxLocals = ls.size := hml9.trans hl.1.symm
      refine lv_iconst (v := 1) hx hb dL_message_15 (by decide) ?_
      exact ke_ui hx hb hr hlk hS dL_message_16 ⟨hk.symm, f, ho, Or.inl ⟨(by rw [hk]; decide), hw⟩⟩
    · refine k_c2 ht (by decide) (by decide) (by decide) hown hG hX wC_L_21 hN.2.1 wC_L_13 wCa_ia hce hcv hcl ?_
      refine lv_astore (lv' := [(4, .ref q9), (0, .ref (ad 0)), (1, .int x), (2, .int w), (3, .ref oo)]) hx hb dL_message_17 hl (by decide) rfl (fun ls hl => ?_)
      have hml : c.maxLocals = ls.size := hml9.trans hl.1.symm
      refine lv_iconst (v := 2) hx hb dL_message_19 (by decide) ?_
      exact ke_ui hx hb hr hlk hS dL_message_20 ⟨hk.symm, f, ho, Or.inl ⟨(by rw [hk]; decide), hw⟩⟩
  · obtain ⟨y0, i, y1, y2, y3, hw⟩ := hp1
    have ho := kP_keepA ho oq1 (fun h => hoA h)
    have hoN := hoA
    refine lv_i2l (v := r.toInt64) hx hb dL_message_8 rfl ?_
    refine k_last hx hb hG ho hS (Or.inr rfl) dL_message_9 (fun H1 locs f' hf0 ho z1 oq1 hS => ?_)
    have hw := hw.keep (A := fun q => q = oo) (fun q _ h => oq1 q h) (fun q h e => hoA (e ▸ h))
    refine lv_goto (tgt := 21) hx hb dL_message_10 (by decide) ?_
    refine lv_iconst (v := 0) hx hb dL_message_21 (by decide) ?_
    exact ke_ui hx hb hr hlk hS dL_message_22 ⟨y0.symm, f', ho, Or.inr ⟨r, hf0, y0, i, y1, y2, y3, hw⟩⟩
theorem cfL_seen : CFw yL_seen cL_seen 6 [(0, 12, 15, 21), (0, 12, 19, 13)] 5 := by unfold CFw; decide +kernel
set_option maxHeartbeats 4000000 in
set_option maxRecDepth 100000 in
theorem c_L_seen (l : Launch) (hlf : l.stackTraces = false) (D : va_G) (cy : Nat → ClassId) (ad : Nat → Nat) (ns nt nr : Nat) (hL : LB ns nt nr) (M : Nat → Nat → Int32) (V : SX) (hA : AI ad ns nt nr) (x y w : Int32) (oo : Nat) (f : Nat → Int64) (hoA : ¬ CA ad ns nt nr oo) : Met l yL_seen [.codeWith yL_seen cL_seen 6 (some .int) [(0, 12, 15, 21), (0, 12, 19, 13)]] ({ frames := 7, cells := 1, slots := 6, locals := 105 } : Room) (PL D cy [.ref (ad 0), .int x, .int y, .int w, .ref oo] (fun H => (CW D cy ad ns nt nr M V H ∧ oL D cy oo f H))) (UQi (fun q => CA ad ns nt nr q ∨ q = oo) (fun r9 H => r9 = (kTwoR nr ns x y w 7) ∧ ∃ f' : Nat → Int64, oL D cy oo f' H ∧ ((¬ (kTwoR nr ns x y w 7) = 0 ∧ CW D cy ad ns nt nr M V H) ∨ ∃ r : Int32, f' 0 = r.toInt64 ∧ kTwoR nr ns x y w 7 = 0 ∧ ∃ i j, i < nr ∧ j < ns ∧ x = nI i ∧ y = nI j ∧ r = pTellG (M (60 + 8 * i + j)) w ∧ CW D cy ad ns nt nr M V H))) 1 6 (fun q => CA ad ns nt nr q ∨ q = oo) := by
  refine k_bodyL (by decide +kernel) (Nat.le_of_ble_eq_true rfl) ?_
  intro p e s m below meth c ls hx hb hml hown hr hlk hl hG hI hX hZ hAW hN ht
  have hml9 : c.maxLocals = 6 := hml.trans hl.1
  have hS : va_S (fun q => CA ad ns nt nr q ∨ q = oo) s.heap s.heap [] := va_S.rf
  obtain ⟨hw, ho⟩ := hI
  have holt : oo < s.heap.size := (ho 0 _ rfl).lt
  have hl : lv_has ls 6 [(0, .ref (ad 0)), (1, .int x), (2, .int y), (3, .int w), (4, .ref oo)] := hl
  refine lv_aload hx hb dL_seen_0 (lv_at hl 4 rfl) ?_
  refine lv_iconst (v := 0) hx hb dL_seen_2 (by decide) ?_
  refine lv_aload_n hx hb dL_seen_3 rfl (lv_at hl 0 rfl) ?_
  refine lv_iload_n hx hb dL_seen_4 rfl (lv_at hl 1 rfl) ?_
  refine lv_iload_n hx hb dL_seen_5 rfl (lv_at hl 2 rfl) ?_
  refine lv_iload_n hx hb dL_seen_6 rfl (lv_at hl 3 rfl) ?_
  refine kx_ui (kx_V (As := [.int x, .int y, .int w]) (rest := [.int 0, .ref oo]) hx hb hml hown hG (c_X6_seen l hlf D cy ad ns nt nr hL M V hA x y w) cf_X6_seen wM_L_72 (PX.preV hG hX hZ hw.o rfl hw) ⟨rfl, rfl, Nat.le_of_ble_eq_true rfl, Nat.le_of_ble_eq_true rfl⟩ rfl rfl (Nat.le_of_ble_eq_true rfl) ⟨Nat.le_of_ble_eq_true rfl, Nat.le_of_ble_eq_true rfl⟩ dL_seen_7) hS (fun q h => Or.inl h) (fun E9 ce q9 H1 locs hpE z1 oq1 hS hce hcv hcl => ?_) (fun r H1 locs hp1 z1 oq1 hS => ?_)
  · have ho := kP_keepA ho oq1 (fun h => h)
    have hw := hw.keep oq1 (fun q _ h => h)
    rcases hpE with ⟨hk, rfl⟩ | ⟨hk, rfl⟩
    · refine k_c1 ht (by decide) (by decide) hown hG hX wC_L_21 wCa_ib hce hcv hcl ?_
      refine lv_astore (lv' := [(5, .ref q9), (0, .ref (ad 0)), (1, .int x), (2, .int y), (3, .int w), (4, .ref oo)]) hx hb dL_seen_15 hl (by decide) rfl (fun ls hl => ?_)
      have hml : c.maxLocals = ls.size := hml9.trans hl.1.symm
      refine lv_iconst (v := 1) hx hb dL_seen_17 (by decide) ?_
      exact ke_ui hx hb hr hlk hS dL_seen_18 ⟨hk.symm, f, ho, Or.inl ⟨(by rw [hk]; decide), hw⟩⟩
    · refine k_c2 ht (by decide) (by decide) (by decide) hown hG hX wC_L_21 hN.2.1 wC_L_13 wCa_ia hce hcv hcl ?_
      refine lv_astore (lv' := [(5, .ref q9), (0, .ref (ad 0)), (1, .int x), (2, .int y), (3, .int w), (4, .ref oo)]) hx hb dL_seen_19 hl (by decide) rfl (fun ls hl => ?_)
      have hml : c.maxLocals = ls.size := hml9.trans hl.1.symm
      refine lv_iconst (v := 2) hx hb dL_seen_21 (by decide) ?_
      exact ke_ui hx hb hr hlk hS dL_seen_22 ⟨hk.symm, f, ho, Or.inl ⟨(by rw [hk]; decide), hw⟩⟩
  · obtain ⟨y0, i, j, y1, y2, y3, y4, y5, hw⟩ := hp1
    have ho := kP_keepA ho oq1 (fun h => hoA h)
    have hoN := hoA
    refine lv_i2l (v := r.toInt64) hx hb dL_seen_10 rfl ?_
    refine k_last hx hb hG ho hS (Or.inr rfl) dL_seen_11 (fun H1 locs f' hf0 ho z1 oq1 hS => ?_)
    have hw := hw.keep (A := fun q => q = oo) (fun q _ h => oq1 q h) (fun q h e => hoA (e ▸ h))
    refine lv_goto (tgt := 23) hx hb dL_seen_12 (by decide) ?_
    refine lv_iconst (v := 0) hx hb dL_seen_23 (by decide) ?_
    exact ke_ui hx hb hr hlk hS dL_seen_24 ⟨y0.symm, f', ho, Or.inr ⟨r, hf0, y0, i, j, y1, y2, y3, y4, y5, hw⟩⟩
theorem cfL_ofReceiver : CFw yL_ofReceiver cL_ofReceiver 5 [(0, 10, 13, 21), (0, 10, 17, 13)] 4 := by unfold CFw; decide +kernel
set_option maxHeartbeats 4000000 in
set_option maxRecDepth 100000 in
theorem c_L_ofReceiver (l : Launch) (hlf : l.stackTraces = false) (D : va_G) (cy : Nat → ClassId) (ad : Nat → Nat) (ns nt nr : Nat) (hL : LB ns nt nr) (M : Nat → Nat → Int32) (V : SX) (hA : AI ad ns nt nr) (x w : Int32) (oo : Nat) (f : Nat → Int64) (hoA : ¬ CA ad ns nt nr oo) : Met l yL_ofReceiver [.codeWith yL_ofReceiver cL_ofReceiver 5 (some .int) [(0, 10, 13, 21), (0, 10, 17, 13)]] ({ frames := 7, cells := 1, slots := 6, locals := 133 } : Room) (PL D cy [.ref (ad 0), .int x, .int w, .ref oo] (fun H => (CW D cy ad ns nt nr M V H ∧ oL D cy oo f H))) (UQi (fun q => CA ad ns nt nr q ∨ q = oo) (fun r9 H => r9 = (kRng nr x w 0 13) ∧ ∃ f' : Nat → Int64, oL D cy oo f' H ∧ ((¬ (kRng nr x w 0 13) = 0 ∧ CW D cy ad ns nt nr M V H) ∨ ∃ r : Int32, f' 0 = r.toInt64 ∧ kRng nr x w 0 13 = 0 ∧ ∃ i, i < nr ∧ x = nI i ∧ r = pTellR M ns i w ∧ CW D cy ad ns nt nr M V H))) 1 6 (fun q => CA ad ns nt nr q ∨ q = oo) := by
  refine k_bodyL (by decide +kernel) (Nat.le_of_ble_eq_true rfl) ?_
  intro p e s m below meth c ls hx hb hml hown hr hlk hl hG hI hX hZ hAW hN ht
  have hml9 : c.maxLocals = 5 := hml.trans hl.1
  have hS : va_S (fun q => CA ad ns nt nr q ∨ q = oo) s.heap s.heap [] := va_S.rf
  obtain ⟨hw, ho⟩ := hI
  have holt : oo < s.heap.size := (ho 0 _ rfl).lt
  have hl : lv_has ls 5 [(0, .ref (ad 0)), (1, .int x), (2, .int w), (3, .ref oo)] := hl
  refine lv_aload_n hx hb dL_ofReceiver_0 rfl (lv_at hl 3 rfl) ?_
  refine lv_iconst (v := 0) hx hb dL_ofReceiver_1 (by decide) ?_
  refine lv_aload_n hx hb dL_ofReceiver_2 rfl (lv_at hl 0 rfl) ?_
  refine lv_iload_n hx hb dL_ofReceiver_3 rfl (lv_at hl 1 rfl) ?_
  refine lv_iload_n hx hb dL_ofReceiver_4 rfl (lv_at hl 2 rfl) ?_
  refine kx_ui (kx_V (As := [.int x, .int w]) (rest := [.int 0, .ref oo]) hx hb hml hown hG (c_X6_ofReceiver l hlf D cy ad ns nt nr hL M V hA x w) cf_X6_ofReceiver wM_L_75 (PX.preV hG hX hZ hw.o rfl hw) ⟨rfl, rfl, Nat.le_of_ble_eq_true rfl, Nat.le_of_ble_eq_true rfl⟩ rfl rfl (Nat.le_of_ble_eq_true rfl) ⟨Nat.le_of_ble_eq_true rfl, Nat.le_of_ble_eq_true rfl⟩ dL_ofReceiver_5) hS (fun q h => Or.inl h) (fun E9 ce q9 H1 locs hpE z1 oq1 hS hce hcv hcl => ?_) (fun r H1 locs hp1 z1 oq1 hS => ?_)
  · have ho := kP_keepA ho oq1 (fun h => h)
    have hw := hw.keep oq1 (fun q _ h => h)
    rcases hpE with ⟨hk, rfl⟩ | ⟨hk, rfl⟩
    · refine k_c1 ht (by decide) (by decide) hown hG hX wC_L_21 wCa_ib hce hcv hcl ?_
      refine lv_astore (lv' := [(4, .ref q9), (0, .ref (ad 0)), (1, .int x), (2, .int w), (3, .ref oo)]) hx hb dL_ofReceiver_13 hl (by decide) rfl (fun ls hl => ?_)
      have hml : c.maxLocals = ls.size := hml9.trans hl.1.symm
      refine lv_iconst (v := 1) hx hb dL_ofReceiver_15 (by decide) ?_
      exact ke_ui hx hb hr hlk hS dL_ofReceiver_16 ⟨hk.symm, f, ho, Or.inl ⟨(by rw [hk]; decide), hw⟩⟩
    · refine k_c2 ht (by decide) (by decide) (by decide) hown hG hX wC_L_21 hN.2.1 wC_L_13 wCa_ia hce hcv hcl ?_
      refine lv_astore (lv' := [(4, .ref q9), (0, .ref (ad 0)), (1, .int x), (2, .int w), (3, .ref oo)]) hx hb dL_ofReceiver_17 hl (by decide) rfl (fun ls hl => ?_)
      have hml : c.maxLocals = ls.size := hml9.trans hl.1.symm
      refine lv_iconst (v := 2) hx hb dL_ofReceiver_19 (by decide) ?_
      exact ke_ui hx hb hr hlk hS dL_ofReceiver_20 ⟨hk.symm, f, ho, Or.inl ⟨(by rw [hk]; decide), hw⟩⟩
  · obtain ⟨y0, i, y1, y2, y3, hw⟩ := hp1
    have ho := kP_keepA ho oq1 (fun h => hoA h)
    have hoN := hoA
    refine lv_i2l (v := r.toInt64) hx hb dL_ofReceiver_8 rfl ?_
    refine k_last hx hb hG ho hS (Or.inr rfl) dL_ofReceiver_9 (fun H1 locs f' hf0 ho z1 oq1 hS => ?_)
    have hw := hw.keep (A := fun q => q = oo) (fun q _ h => oq1 q h) (fun q h e => hoA (e ▸ h))
    refine lv_goto (tgt := 21) hx hb dL_ofReceiver_10 (by decide) ?_
    refine lv_iconst (v := 0) hx hb dL_ofReceiver_21 (by decide) ?_
    exact ke_ui hx hb hr hlk hS dL_ofReceiver_22 ⟨y0.symm, f', ho, Or.inr ⟨r, hf0, y0, i, y1, y2, y3, hw⟩⟩
theorem cfL_many : CFw yL_many cL_many 4 [(0, 9, 12, 13)] 3 := by unfold CFw; decide +kernel
set_option maxHeartbeats 4000000 in
set_option maxRecDepth 100000 in
theorem c_L_many (l : Launch) (hlf : l.stackTraces = false) (D : va_G) (cy : Nat → ClassId) (ad : Nat → Nat) (ns nt nr : Nat) (hL : LB ns nt nr) (M : Nat → Nat → Int32) (V : SX) (hA : AI ad ns nt nr) (w : Int32) (oo : Nat) (f : Nat → Int64) (hoA : ¬ CA ad ns nt nr oo) : Met l yL_many [.codeWith yL_many cL_many 4 (some .int) [(0, 9, 12, 13)]] ({ frames := 7, cells := 1, slots := 6, locals := 108 } : Room) (PL D cy [.ref (ad 0), .int w, .ref oo] (fun H => (CW D cy ad ns nt nr M V H ∧ oL D cy oo f H))) (UQi (fun q => CA ad ns nt nr q ∨ q = oo) (fun r9 H => r9 = (kIn w 0 8) ∧ ∃ f' : Nat → Int64, oL D cy oo f' H ∧ ((¬ (kIn w 0 8) = 0 ∧ CW D cy ad ns nt nr M V H) ∨ ∃ r : Int32, f' 0 = r.toInt64 ∧ kIn w 0 8 = 0 ∧ r = pCount M ns nt nr w ∧ CW D cy ad ns nt nr M V H))) 1 6 (fun q => CA ad ns nt nr q ∨ q = oo) := by
  refine k_bodyL (by decide +kernel) (Nat.le_of_ble_eq_true rfl) ?_
  intro p e s m below meth c ls hx hb hml hown hr hlk hl hG hI hX hZ hAW hN ht
  have hml9 : c.maxLocals = 4 := hml.trans hl.1
  have hS : va_S (fun q => CA ad ns nt nr q ∨ q = oo) s.heap s.heap [] := va_S.rf
  obtain ⟨hw, ho⟩ := hI
  have holt : oo < s.heap.size := (ho 0 _ rfl).lt
  have hl : lv_has ls 4 [(0, .ref (ad 0)), (1, .int w), (2, .ref oo)] := hl
  refine lv_aload_n hx hb dL_many_0 rfl (lv_at hl 2 rfl) ?_
  refine lv_iconst (v := 0) hx hb dL_many_1 (by decide) ?_
  refine lv_aload_n hx hb dL_many_2 rfl (lv_at hl 0 rfl) ?_
  refine lv_iload_n hx hb dL_many_3 rfl (lv_at hl 1 rfl) ?_
  refine kx_ui (kx_V (As := [.int w]) (rest := [.int 0, .ref oo]) hx hb hml hown hG (c_X6_many l hlf D cy ad ns nt nr hL M V hA w) cf_X6_many wM_L_78 (PX.preV hG hX hZ hw.o rfl hw) ⟨rfl, rfl, Nat.le_of_ble_eq_true rfl, Nat.le_of_ble_eq_true rfl⟩ rfl rfl (Nat.le_of_ble_eq_true rfl) ⟨Nat.le_of_ble_eq_true rfl, Nat.le_of_ble_eq_true rfl⟩ dL_many_4) hS (fun q h => Or.inl h) (fun E9 ce q9 H1 locs hpE z1 oq1 hS hce hcv hcl => ?_) (fun r H1 locs hp1 z1 oq1 hS => ?_)
  · have ho := kP_keepA ho oq1 (fun h => h)
    have hw := hw.keep oq1 (fun q _ h => h)
    rcases hpE with ⟨hk, rfl⟩ | ⟨hk, rfl⟩
    · refine k_c1 ht (by decide) (by decide) hown hG hX wC_L_13 wCa_ia hce hcv hcl ?_
      refine lv_astore_n (lv' := [(3, .ref q9), (0, .ref (ad 0)), (1, .int w), (2, .ref oo)]) hx hb dL_many_12 rfl hl (by decide) rfl (fun ls hl => ?_)
      have hml : c.maxLocals = ls.size := hml9.trans hl.1.symm
      refine lv_iconst (v := 1) hx hb dL_many_13 (by decide) ?_
      exact ke_ui hx hb hr hlk hS dL_many_14 ⟨hk.symm, f, ho, Or.inl ⟨(by rw [hk]; decide), hw⟩⟩
    · exact absurd hk kIn_2
  · obtain ⟨y0, y1, hw⟩ := hp1
    have ho := kP_keepA ho oq1 (fun h => hoA h)
    have hoN := hoA
    refine lv_i2l (v := r.toInt64) hx hb dL_many_7 rfl ?_
    refine k_last hx hb hG ho hS (Or.inr rfl) dL_many_8 (fun H1 locs f' hf0 ho z1 oq1 hS => ?_)
    have hw := hw.keep (A := fun q => q = oo) (fun q _ h => oq1 q h) (fun q h e => hoA (e ▸ h))
    refine lv_goto (tgt := 15) hx hb dL_many_9 (by decide) ?_
    refine lv_iconst (v := 0) hx hb dL_many_15 (by decide) ?_
    exact ke_ui hx hb hr hlk hS dL_many_16 ⟨y0.symm, f', ho, Or.inr ⟨r, hf0, y0, y1, hw⟩⟩
theorem cfL_meanError : CFw yL_meanError cL_meanError 4 [(0, 8, 11, 21)] 3 := by unfold CFw; decide +kernel
set_option maxHeartbeats 4000000 in
set_option maxRecDepth 100000 in
theorem c_L_meanError (l : Launch) (hlf : l.stackTraces = false) (D : va_G) (cy : Nat → ClassId) (ad : Nat → Nat) (ns nt nr : Nat) (hL : LB ns nt nr) (M : Nat → Nat → Int32) (V : SX) (hA : AI ad ns nt nr) (x : Int32) (oo : Nat) (f : Nat → UInt64) (hoA : ¬ CA ad ns nt nr oo) : Met l yL_meanError [.codeWith yL_meanError cL_meanError 4 (some .int) [(0, 8, 11, 21)]] ({ frames := 7, cells := 1, slots := 6, locals := 103 } : Room) (PL D cy [.ref (ad 0), .int x, .ref oo] (fun H => (CW D cy ad ns nt nr M V H ∧ oD D cy oo f H))) (UQi (fun q => CA ad ns nt nr q ∨ q = oo) (fun r9 H => r9 = (kOne nr x) ∧ ∃ f' : Nat → UInt64, oD D cy oo f' H ∧ ((¬ (kOne nr x) = 0 ∧ CW D cy ad ns nt nr M V H) ∨ ∃ r : UInt64, f' 0 = r ∧ kOne nr x = 0 ∧ ∃ i, i < nr ∧ x = nI i ∧ r = pMean (M (50 + i)) ∧ CW D cy ad ns nt nr M V H))) 1 6 (fun q => CA ad ns nt nr q ∨ q = oo) := by
  refine k_bodyL (by decide +kernel) (Nat.le_of_ble_eq_true rfl) ?_
  intro p e s m below meth c ls hx hb hml hown hr hlk hl hG hI hX hZ hAW hN ht
  have hml9 : c.maxLocals = 4 := hml.trans hl.1
  have hS : va_S (fun q => CA ad ns nt nr q ∨ q = oo) s.heap s.heap [] := va_S.rf
  obtain ⟨hw, ho⟩ := hI
  have holt : oo < s.heap.size := (ho 0 _ rfl).lt
  have hl : lv_has ls 4 [(0, .ref (ad 0)), (1, .int x), (2, .ref oo)] := hl
  refine lv_aload_n hx hb dL_meanError_0 rfl (lv_at hl 2 rfl) ?_
  refine lv_iconst (v := 0) hx hb dL_meanError_1 (by decide) ?_
  refine lv_aload_n hx hb dL_meanError_2 rfl (lv_at hl 0 rfl) ?_
  refine lv_iload_n hx hb dL_meanError_3 rfl (lv_at hl 1 rfl) ?_
  refine kx_ud (kx_V (As := [.int x]) (rest := [.int 0, .ref oo]) hx hb hml hown hG (c_X6_meanError l hlf D cy ad ns nt nr hL M V hA x) cf_X6_meanError wM_L_81 (PX.preV hG hX hZ hw.o rfl hw) ⟨rfl, rfl, Nat.le_of_ble_eq_true rfl, Nat.le_of_ble_eq_true rfl⟩ rfl rfl (Nat.le_of_ble_eq_true rfl) ⟨Nat.le_of_ble_eq_true rfl, Nat.le_of_ble_eq_true rfl⟩ dL_meanError_4) hS (fun q h => Or.inl h) (fun E9 ce q9 H1 locs hpE z1 oq1 hS hce hcv hcl => ?_) (fun r H1 locs hp1 z1 oq1 hS => ?_)
  · have ho := kP_keepA ho oq1 (fun h => h)
    have hw := hw.keep oq1 (fun q _ h => h)
    rcases hpE with ⟨hk, rfl⟩ | ⟨hk, rfl⟩
    · refine k_c1 ht (by decide) (by decide) hown hG hX wC_L_21 wCa_ib hce hcv hcl ?_
      refine lv_astore_n (lv' := [(3, .ref q9), (0, .ref (ad 0)), (1, .int x), (2, .ref oo)]) hx hb dL_meanError_11 rfl hl (by decide) rfl (fun ls hl => ?_)
      have hml : c.maxLocals = ls.size := hml9.trans hl.1.symm
      refine lv_iconst (v := 1) hx hb dL_meanError_12 (by decide) ?_
      exact ke_ui hx hb hr hlk hS dL_meanError_13 ⟨hk.symm, f, ho, Or.inl ⟨(by rw [hk]; decide), hw⟩⟩
    · exact absurd hk kOne_2
  · obtain ⟨y0, i, y1, y2, y3, hw⟩ := hp1
    have ho := kP_keepA ho oq1 (fun h => hoA h)
    have hoN := hoA
    refine k_dast hx hb hG ho hS (Or.inr rfl) dL_meanError_7 (fun H1 locs f' hf0 ho z1 oq1 hS => ?_)
    have hw := hw.keep (A := fun q => q = oo) (fun q _ h => oq1 q h) (fun q h e => hoA (e ▸ h))
    refine lv_goto (tgt := 14) hx hb dL_meanError_8 (by decide) ?_
    refine lv_iconst (v := 0) hx hb dL_meanError_14 (by decide) ?_
    exact ke_ui hx hb hr hlk hS dL_meanError_15 ⟨y0.symm, f', ho, Or.inr ⟨r, hf0, y0, i, y1, y2, y3, hw⟩⟩
theorem cfL_wouldSee : CFw yL_wouldSee cL_wouldSee 5 [(0, 10, 13, 21), (0, 10, 17, 13)] 4 := by unfold CFw; decide +kernel
set_option maxHeartbeats 4000000 in
set_option maxRecDepth 100000 in
theorem c_L_wouldSee (l : Launch) (hlf : l.stackTraces = false) (D : va_G) (cy : Nat → ClassId) (ad : Nat → Nat) (ns nt nr : Nat) (hL : LB ns nt nr) (M : Nat → Nat → Int32) (V : SX) (hA : AI ad ns nt nr) (x k : Int32) (oo : Nat) (f : Nat → Int64) (hoA : ¬ CA ad ns nt nr oo) : Met l yL_wouldSee [.codeWith yL_wouldSee cL_wouldSee 5 (some .int) [(0, 10, 13, 21), (0, 10, 17, 13)]] ({ frames := 7, cells := 1, slots := 6, locals := 111 } : Room) (PL D cy [.ref (ad 0), .int x, .int k, .ref oo] (fun H => (CW D cy ad ns nt nr M V H ∧ oL D cy oo f H))) (UQi (fun q => CA ad ns nt nr q ∨ q = oo) (fun r9 H => r9 = (kRng nr x k 0 48) ∧ ∃ f' : Nat → Int64, oL D cy oo f' H ∧ ((¬ (kRng nr x k 0 48) = 0 ∧ CW D cy ad ns nt nr M V H) ∨ ∃ r : Int32, f' 0 = r.toInt64 ∧ kRng nr x k 0 48 = 0 ∧ ∃ i, i < nr ∧ x = nI i ∧ r = pSet (M (30 + i)) M k ns ∧ CW D cy ad ns nt nr M V H))) 1 6 (fun q => CA ad ns nt nr q ∨ q = oo) := by
  refine k_bodyL (by decide +kernel) (Nat.le_of_ble_eq_true rfl) ?_
  intro p e s m below meth c ls hx hb hml hown hr hlk hl hG hI hX hZ hAW hN ht
  have hml9 : c.maxLocals = 5 := hml.trans hl.1
  have hS : va_S (fun q => CA ad ns nt nr q ∨ q = oo) s.heap s.heap [] := va_S.rf
  obtain ⟨hw, ho⟩ := hI
  have holt : oo < s.heap.size := (ho 0 _ rfl).lt
  have hl : lv_has ls 5 [(0, .ref (ad 0)), (1, .int x), (2, .int k), (3, .ref oo)] := hl
  refine lv_aload_n hx hb dL_wouldSee_0 rfl (lv_at hl 3 rfl) ?_
  refine lv_iconst (v := 0) hx hb dL_wouldSee_1 (by decide) ?_
  refine lv_aload_n hx hb dL_wouldSee_2 rfl (lv_at hl 0 rfl) ?_
  refine lv_iload_n hx hb dL_wouldSee_3 rfl (lv_at hl 1 rfl) ?_
  refine lv_iload_n hx hb dL_wouldSee_4 rfl (lv_at hl 2 rfl) ?_
  refine kx_ui (kx_V (As := [.int x, .int k]) (rest := [.int 0, .ref oo]) hx hb hml hown hG (c_X6_wouldSee l hlf D cy ad ns nt nr hL M V hA x k) cf_X6_wouldSee wM_L_85 (PX.preV hG hX hZ hw.o rfl hw) ⟨rfl, rfl, Nat.le_of_ble_eq_true rfl, Nat.le_of_ble_eq_true rfl⟩ rfl rfl (Nat.le_of_ble_eq_true rfl) ⟨Nat.le_of_ble_eq_true rfl, Nat.le_of_ble_eq_true rfl⟩ dL_wouldSee_5) hS (fun q h => Or.inl h) (fun E9 ce q9 H1 locs hpE z1 oq1 hS hce hcv hcl => ?_) (fun r H1 locs hp1 z1 oq1 hS => ?_)
  · have ho := kP_keepA ho oq1 (fun h => h)
    have hw := hw.keep oq1 (fun q _ h => h)
    rcases hpE with ⟨hk, rfl⟩ | ⟨hk, rfl⟩
    · refine k_c1 ht (by decide) (by decide) hown hG hX wC_L_21 wCa_ib hce hcv hcl ?_
      refine lv_astore (lv' := [(4, .ref q9), (0, .ref (ad 0)), (1, .int x), (2, .int k), (3, .ref oo)]) hx hb dL_wouldSee_13 hl (by decide) rfl (fun ls hl => ?_)
      have hml : c.maxLocals = ls.size := hml9.trans hl.1.symm
      refine lv_iconst (v := 1) hx hb dL_wouldSee_15 (by decide) ?_
      exact ke_ui hx hb hr hlk hS dL_wouldSee_16 ⟨hk.symm, f, ho, Or.inl ⟨(by rw [hk]; decide), hw⟩⟩
    · refine k_c2 ht (by decide) (by decide) (by decide) hown hG hX wC_L_21 hN.2.1 wC_L_13 wCa_ia hce hcv hcl ?_
      refine lv_astore (lv' := [(4, .ref q9), (0, .ref (ad 0)), (1, .int x), (2, .int k), (3, .ref oo)]) hx hb dL_wouldSee_17 hl (by decide) rfl (fun ls hl => ?_)
      have hml : c.maxLocals = ls.size := hml9.trans hl.1.symm
      refine lv_iconst (v := 2) hx hb dL_wouldSee_19 (by decide) ?_
      exact ke_ui hx hb hr hlk hS dL_wouldSee_20 ⟨hk.symm, f, ho, Or.inl ⟨(by rw [hk]; decide), hw⟩⟩
  · obtain ⟨y0, i, y1, y2, y3, hw⟩ := hp1
    have ho := kP_keepA ho oq1 (fun h => hoA h)
    have hoN := hoA
    refine lv_i2l (v := r.toInt64) hx hb dL_wouldSee_8 rfl ?_
    refine k_last hx hb hG ho hS (Or.inr rfl) dL_wouldSee_9 (fun H1 locs f' hf0 ho z1 oq1 hS => ?_)
    have hw := hw.keep (A := fun q => q = oo) (fun q _ h => oq1 q h) (fun q h e => hoA (e ▸ h))
    refine lv_goto (tgt := 21) hx hb dL_wouldSee_10 (by decide) ?_
    refine lv_iconst (v := 0) hx hb dL_wouldSee_21 (by decide) ?_
    exact ke_ui hx hb hr hlk hS dL_wouldSee_22 ⟨y0.symm, f', ho, Or.inr ⟨r, hf0, y0, i, y1, y2, y3, hw⟩⟩
theorem cfL_heardIn : CFw yL_heardIn cL_heardIn 5 [(0, 10, 13, 21)] 4 := by unfold CFw; decide +kernel
set_option maxHeartbeats 4000000 in
set_option maxRecDepth 100000 in
theorem c_L_heardIn (l : Launch) (hlf : l.stackTraces = false) (D : va_G) (cy : Nat → ClassId) (ad : Nat → Nat) (ns nt nr : Nat) (hL : LB ns nt nr) (M : Nat → Nat → Int32) (V : SX) (hA : AI ad ns nt nr) (x t : Int32) (oo : Nat) (f : Nat → Int64) (hoA : ¬ CA ad ns nt nr oo) : Met l yL_heardIn [.codeWith yL_heardIn cL_heardIn 5 (some .int) [(0, 10, 13, 21)]] ({ frames := 7, cells := 1, slots := 6, locals := 109 } : Room) (PL D cy [.ref (ad 0), .int x, .int t, .ref oo] (fun H => (CW D cy ad ns nt nr M V H ∧ oL D cy oo f H))) (UQi (fun q => CA ad ns nt nr q ∨ q = oo) (fun r9 H => r9 = (kTwo ns nt x t) ∧ ∃ f' : Nat → Int64, oL D cy oo f' H ∧ ((¬ (kTwo ns nt x t) = 0 ∧ CW D cy ad ns nt nr M V H) ∨ ∃ r : Int32, f' 0 = r.toInt64 ∧ kTwo ns nt x t = 0 ∧ ∃ j i, j < ns ∧ i < nt ∧ x = nI j ∧ t = nI i ∧ r = pFs (M (20 + i)) (M (10 + j)) 49 0 ∧ CW D cy ad ns nt nr M V H))) 1 6 (fun q => CA ad ns nt nr q ∨ q = oo) := by
  refine k_bodyL (by decide +kernel) (Nat.le_of_ble_eq_true rfl) ?_
  intro p e s m below meth c ls hx hb hml hown hr hlk hl hG hI hX hZ hAW hN ht
  have hml9 : c.maxLocals = 5 := hml.trans hl.1
  have hS : va_S (fun q => CA ad ns nt nr q ∨ q = oo) s.heap s.heap [] := va_S.rf
  obtain ⟨hw, ho⟩ := hI
  have holt : oo < s.heap.size := (ho 0 _ rfl).lt
  have hl : lv_has ls 5 [(0, .ref (ad 0)), (1, .int x), (2, .int t), (3, .ref oo)] := hl
  refine lv_aload_n hx hb dL_heardIn_0 rfl (lv_at hl 3 rfl) ?_
  refine lv_iconst (v := 0) hx hb dL_heardIn_1 (by decide) ?_
  refine lv_aload_n hx hb dL_heardIn_2 rfl (lv_at hl 0 rfl) ?_
  refine lv_iload_n hx hb dL_heardIn_3 rfl (lv_at hl 1 rfl) ?_
  refine lv_iload_n hx hb dL_heardIn_4 rfl (lv_at hl 2 rfl) ?_
  refine kx_ui (kx_V (As := [.int x, .int t]) (rest := [.int 0, .ref oo]) hx hb hml hown hG (c_X6_heardIn l hlf D cy ad ns nt nr hL M V hA x t) cf_X6_heardIn wM_L_88 (PX.preV hG hX hZ hw.o rfl hw) ⟨rfl, rfl, Nat.le_of_ble_eq_true rfl, Nat.le_of_ble_eq_true rfl⟩ rfl rfl (Nat.le_of_ble_eq_true rfl) ⟨Nat.le_of_ble_eq_true rfl, Nat.le_of_ble_eq_true rfl⟩ dL_heardIn_5) hS (fun q h => Or.inl h) (fun E9 ce q9 H1 locs hpE z1 oq1 hS hce hcv hcl => ?_) (fun r H1 locs hp1 z1 oq1 hS => ?_)
  · have ho := kP_keepA ho oq1 (fun h => h)
    have hw := hw.keep oq1 (fun q _ h => h)
    rcases hpE with ⟨hk, rfl⟩ | ⟨hk, rfl⟩
    · refine k_c1 ht (by decide) (by decide) hown hG hX wC_L_21 wCa_ib hce hcv hcl ?_
      refine lv_astore (lv' := [(4, .ref q9), (0, .ref (ad 0)), (1, .int x), (2, .int t), (3, .ref oo)]) hx hb dL_heardIn_13 hl (by decide) rfl (fun ls hl => ?_)
      have hml : c.maxLocals = ls.size := hml9.trans hl.1.symm
      refine lv_iconst (v := 1) hx hb dL_heardIn_15 (by decide) ?_
      exact ke_ui hx hb hr hlk hS dL_heardIn_16 ⟨hk.symm, f, ho, Or.inl ⟨(by rw [hk]; decide), hw⟩⟩
    · exact absurd hk kTwo_2
  · obtain ⟨y0, j, i, y1, y2, y3, y4, y5, hw⟩ := hp1
    have ho := kP_keepA ho oq1 (fun h => hoA h)
    have hoN := hoA
    refine lv_i2l (v := r.toInt64) hx hb dL_heardIn_8 rfl ?_
    refine k_last hx hb hG ho hS (Or.inr rfl) dL_heardIn_9 (fun H1 locs f' hf0 ho z1 oq1 hS => ?_)
    have hw := hw.keep (A := fun q => q = oo) (fun q _ h => oq1 q h) (fun q h e => hoA (e ▸ h))
    refine lv_goto (tgt := 17) hx hb dL_heardIn_10 (by decide) ?_
    refine lv_iconst (v := 0) hx hb dL_heardIn_17 (by decide) ?_
    exact ke_ui hx hb hr hlk hS dL_heardIn_18 ⟨y0.symm, f', ho, Or.inr ⟨r, hf0, y0, j, i, y1, y2, y3, y4, y5, hw⟩⟩
theorem cfL_without : CFw yL_without cL_without 5 [(0, 10, 13, 21)] 4 := by unfold CFw; decide +kernel
set_option maxHeartbeats 4000000 in
set_option maxRecDepth 100000 in
theorem c_L_without (l : Launch) (hlf : l.stackTraces = false) (D : va_G) (cy : Nat → ClassId) (ad : Nat → Nat) (ns nt nr : Nat) (hL : LB ns nt nr) (M : Nat → Nat → Int32) (V : SX) (hA : AI ad ns nt nr) (x y : Int32) (oo : Nat) (f : Nat → Int64) (hoA : ¬ CA ad ns nt nr oo) : Met l yL_without [.codeWith yL_without cL_without 5 (some .int) [(0, 10, 13, 21)]] ({ frames := 7, cells := 1, slots := 6, locals := 141 } : Room) (PL D cy [.ref (ad 0), .int x, .int y, .ref oo] (fun H => (CW D cy ad ns nt nr M V H ∧ oL D cy oo f H))) (UQi (fun q => CA ad ns nt nr q ∨ q = oo) (fun r9 H => r9 = (kTwo nr ns x y) ∧ ∃ f' : Nat → Int64, oL D cy oo f' H ∧ ((¬ (kTwo nr ns x y) = 0 ∧ CW D cy ad ns nt nr M V H) ∨ ∃ r : Int32, f' 0 = r.toInt64 ∧ kTwo nr ns x y = 0 ∧ ∃ i j, i < nr ∧ j < ns ∧ x = nI i ∧ y = nI j ∧ r = pWo M ns nr i y V ∧ ∃ V2 : SX, CW D cy ad ns nt nr M V2 H))) 1 6 (fun q => CA ad ns nt nr q ∨ q = oo) := by
  refine k_bodyL (by decide +kernel) (Nat.le_of_ble_eq_true rfl) ?_
  intro p e s m below meth c ls hx hb hml hown hr hlk hl hG hI hX hZ hAW hN ht
  have hml9 : c.maxLocals = 5 := hml.trans hl.1
  have hS : va_S (fun q => CA ad ns nt nr q ∨ q = oo) s.heap s.heap [] := va_S.rf
  obtain ⟨hw, ho⟩ := hI
  have holt : oo < s.heap.size := (ho 0 _ rfl).lt
  have hl : lv_has ls 5 [(0, .ref (ad 0)), (1, .int x), (2, .int y), (3, .ref oo)] := hl
  refine lv_aload_n hx hb dL_without_0 rfl (lv_at hl 3 rfl) ?_
  refine lv_iconst (v := 0) hx hb dL_without_1 (by decide) ?_
  refine lv_aload_n hx hb dL_without_2 rfl (lv_at hl 0 rfl) ?_
  refine lv_iload_n hx hb dL_without_3 rfl (lv_at hl 1 rfl) ?_
  refine lv_iload_n hx hb dL_without_4 rfl (lv_at hl 2 rfl) ?_
  refine kx_ui (kx_V (As := [.int x, .int y]) (rest := [.int 0, .ref oo]) hx hb hml hown hG (c_X6_without l hlf D cy ad ns nt nr hL M V hA x y) cf_X6_without wM_L_91 (PX.preV hG hX hZ hw.o rfl hw) ⟨rfl, rfl, Nat.le_of_ble_eq_true rfl, Nat.le_of_ble_eq_true rfl⟩ rfl rfl (Nat.le_of_ble_eq_true rfl) ⟨Nat.le_of_ble_eq_true rfl, Nat.le_of_ble_eq_true rfl⟩ dL_without_5) hS (fun q h => Or.inl h) (fun E9 ce q9 H1 locs hpE z1 oq1 hS hce hcv hcl => ?_) (fun r H1 locs hp1 z1 oq1 hS => ?_)
  · have ho := kP_keepA ho oq1 (fun h => h)
    have hw := hw.keep oq1 (fun q _ h => h)
    rcases hpE with ⟨hk, rfl⟩ | ⟨hk, rfl⟩
    · refine k_c1 ht (by decide) (by decide) hown hG hX wC_L_21 wCa_ib hce hcv hcl ?_
      refine lv_astore (lv' := [(4, .ref q9), (0, .ref (ad 0)), (1, .int x), (2, .int y), (3, .ref oo)]) hx hb dL_without_13 hl (by decide) rfl (fun ls hl => ?_)
      have hml : c.maxLocals = ls.size := hml9.trans hl.1.symm
      refine lv_iconst (v := 1) hx hb dL_without_15 (by decide) ?_
      exact ke_ui hx hb hr hlk hS dL_without_16 ⟨hk.symm, f, ho, Or.inl ⟨(by rw [hk]; decide), hw⟩⟩
    · exact absurd hk kTwo_2
  · obtain ⟨y0, i, j, y1, y2, y3, y4, y5, V2, hw⟩ := hp1
    have ho := kP_keepA ho oq1 (fun h => hoA h)
    have hoN := hoA
    refine lv_i2l (v := r.toInt64) hx hb dL_without_8 rfl ?_
    refine k_last hx hb hG ho hS (Or.inr rfl) dL_without_9 (fun H1 locs f' hf0 ho z1 oq1 hS => ?_)
    have hw := hw.keep (A := fun q => q = oo) (fun q _ h => oq1 q h) (fun q h e => hoA (e ▸ h))
    refine lv_goto (tgt := 17) hx hb dL_without_10 (by decide) ?_
    refine lv_iconst (v := 0) hx hb dL_without_17 (by decide) ?_
    exact ke_ui hx hb hr hlk hS dL_without_18 ⟨y0.symm, f', ho, Or.inr ⟨r, hf0, y0, i, j, y1, y2, y3, y4, y5, V2, hw⟩⟩
theorem cfL_wouldAlarm : CFw yL_wouldAlarm cL_wouldAlarm 4 [(0, 9, 12, 21)] 3 := by unfold CFw; decide +kernel
set_option maxHeartbeats 4000000 in
set_option maxRecDepth 100000 in
theorem c_L_wouldAlarm (l : Launch) (hlf : l.stackTraces = false) (D : va_G) (cy : Nat → ClassId) (ad : Nat → Nat) (ns nt nr : Nat) (hL : LB ns nt nr) (M : Nat → Nat → Int32) (V : SX) (hA : AI ad ns nt nr) (x : Int32) (oo : Nat) (f : Nat → Int64) (hoA : ¬ CA ad ns nt nr oo) : Met l yL_wouldAlarm [.codeWith yL_wouldAlarm cL_wouldAlarm 4 (some .int) [(0, 9, 12, 21)]] ({ frames := 7, cells := 1, slots := 6, locals := 161 } : Room) (PL D cy [.ref (ad 0), .int x, .ref oo] (fun H => (CW D cy ad ns nt nr M V H ∧ oL D cy oo f H))) (UQi (fun q => CA ad ns nt nr q ∨ q = oo) (fun r9 H => r9 = (kOne nr x) ∧ ∃ f' : Nat → Int64, oL D cy oo f' H ∧ ((¬ (kOne nr x) = 0 ∧ CW D cy ad ns nt nr M V H) ∨ ∃ r : Int32, f' 0 = r.toInt64 ∧ kOne nr x = 0 ∧ ∃ i, i < nr ∧ x = nI i ∧ r = pSAl M ns nr i V ∧ ∃ V2 : SX, CW D cy ad ns nt nr M V2 H))) 1 6 (fun q => CA ad ns nt nr q ∨ q = oo) := by
  refine k_bodyL (by decide +kernel) (Nat.le_of_ble_eq_true rfl) ?_
  intro p e s m below meth c ls hx hb hml hown hr hlk hl hG hI hX hZ hAW hN ht
  have hml9 : c.maxLocals = 4 := hml.trans hl.1
  have hS : va_S (fun q => CA ad ns nt nr q ∨ q = oo) s.heap s.heap [] := va_S.rf
  obtain ⟨hw, ho⟩ := hI
  have holt : oo < s.heap.size := (ho 0 _ rfl).lt
  have hl : lv_has ls 4 [(0, .ref (ad 0)), (1, .int x), (2, .ref oo)] := hl
  refine lv_aload_n hx hb dL_wouldAlarm_0 rfl (lv_at hl 2 rfl) ?_
  refine lv_iconst (v := 0) hx hb dL_wouldAlarm_1 (by decide) ?_
  refine lv_aload_n hx hb dL_wouldAlarm_2 rfl (lv_at hl 0 rfl) ?_
  refine lv_iload_n hx hb dL_wouldAlarm_3 rfl (lv_at hl 1 rfl) ?_
  refine kx_ui (kx_V (As := [.int x]) (rest := [.int 0, .ref oo]) hx hb hml hown hG (c_X6_wouldAlarm l hlf D cy ad ns nt nr hL M V hA x) cf_X6_wouldAlarm wM_L_94 (PX.preV hG hX hZ hw.o rfl hw) ⟨rfl, rfl, Nat.le_of_ble_eq_true rfl, Nat.le_of_ble_eq_true rfl⟩ rfl rfl (Nat.le_of_ble_eq_true rfl) ⟨Nat.le_of_ble_eq_true rfl, Nat.le_of_ble_eq_true rfl⟩ dL_wouldAlarm_4) hS (fun q h => Or.inl h) (fun E9 ce q9 H1 locs hpE z1 oq1 hS hce hcv hcl => ?_) (fun r H1 locs hp1 z1 oq1 hS => ?_)
  · have ho := kP_keepA ho oq1 (fun h => h)
    have hw := hw.keep oq1 (fun q _ h => h)
    rcases hpE with ⟨hk, rfl⟩ | ⟨hk, rfl⟩
    · refine k_c1 ht (by decide) (by decide) hown hG hX wC_L_21 wCa_ib hce hcv hcl ?_
      refine lv_astore_n (lv' := [(3, .ref q9), (0, .ref (ad 0)), (1, .int x), (2, .ref oo)]) hx hb dL_wouldAlarm_12 rfl hl (by decide) rfl (fun ls hl => ?_)
      have hml : c.maxLocals = ls.size := hml9.trans hl.1.symm
      refine lv_iconst (v := 1) hx hb dL_wouldAlarm_13 (by decide) ?_
      exact ke_ui hx hb hr hlk hS dL_wouldAlarm_14 ⟨hk.symm, f, ho, Or.inl ⟨(by rw [hk]; decide), hw⟩⟩
    · exact absurd hk kOne_2
  · obtain ⟨y0, i, y1, y2, y3, V2, hw⟩ := hp1
    have ho := kP_keepA ho oq1 (fun h => hoA h)
    have hoN := hoA
    refine lv_i2l (v := r.toInt64) hx hb dL_wouldAlarm_7 rfl ?_
    refine k_last hx hb hG ho hS (Or.inr rfl) dL_wouldAlarm_8 (fun H1 locs f' hf0 ho z1 oq1 hS => ?_)
    have hw := hw.keep (A := fun q => q = oo) (fun q _ h => oq1 q h) (fun q h e => hoA (e ▸ h))
    refine lv_goto (tgt := 15) hx hb dL_wouldAlarm_9 (by decide) ?_
    refine lv_iconst (v := 0) hx hb dL_wouldAlarm_15 (by decide) ?_
    exact ke_ui hx hb hr hlk hS dL_wouldAlarm_16 ⟨y0.symm, f', ho, Or.inr ⟨r, hf0, y0, i, y1, y2, y3, V2, hw⟩⟩
