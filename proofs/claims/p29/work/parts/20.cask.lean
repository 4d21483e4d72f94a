set_option maxHeartbeats 4000000 in
set_option maxRecDepth 100000 in
theorem c_X6_isNoStar (l : Launch) (D : va_G) (cy : Nat → ClassId) (ad : Nat → Nat) (ns nt nr : Nat) (hL : LB ns nt nr) (M : Nat → Nat → Int32) (V : SX) (v : Int32) : Met l yX6_isNoStar [.code yX6_isNoStar cX6_isNoStar 2 (some .boolean)] ({ frames := 1, cells := 0, slots := 0, locals := 22 } : Room) (PC D cy [.ref (ad 0), .int v] (fun H => CW D cy ad ns nt nr M V H)) (RQi (bI (pOut v 0 (nI ns - 1)))) 0 0 (fun _ => False) := by
  refine k_body (by decide +kernel) (Nat.le_of_ble_eq_true rfl) ?_
  intro p e s m below meth c ls hx hb hml hown hr hlk hmn hl hG hI
  have hml9 : c.maxLocals = 2 := hml.trans hl.1
  have hl : lv_has ls 2 [(0, .ref (ad 0)), (1, .int v)] := hl
  refine lv_iload_n hx hb dX6_isNoStar_0 rfl (lv_at hl 1 rfl) ?_
  refine lv_iconst (v := 0) hx hb dX6_isNoStar_1 (by decide) ?_
  refine lv_aload_n hx hb dX6_isNoStar_2 rfl (lv_at hl 0 rfl) ?_
  refine k_get (ci := 6) (C := RX6) (T := TX6) (N := 8) (v := .int (nI ns)) hx hb hown hG rfl kin_X6 hI.o 4 (by decide) wF_X6_47 rfl dX6_isNoStar_3 ?_
  refine lv_iconst (v := 1) hx hb dX6_isNoStar_6 (by decide) ?_
  refine lv_isub hx hb dX6_isNoStar_7 ?_
  refine kc_i (kr_S (As := [.int v, .int 0, .int ((nI ns) - 1)]) (rest := []) hx hb hml hown hG (c_X6_isOutside l D cy v 0 ((nI ns) - 1)) cf_X6_isOutside wM_X6_34 trivial ⟨rfl, rfl, by decide, by decide⟩ rfl rfl (Nat.le_of_ble_eq_true rfl) ⟨Nat.le_of_ble_eq_true rfl, Nat.le_of_ble_eq_true rfl⟩ dX6_isNoStar_8) ?_
  exact ke_z hx hb hr hlk dX6_isNoStar_11 (by first | rfl | (try delta pOut; simp only [bI_true, bI_false]))
set_option maxHeartbeats 4000000 in
set_option maxRecDepth 100000 in
theorem c_X6_isNoStation (l : Launch) (D : va_G) (cy : Nat → ClassId) (ad : Nat → Nat) (ns nt nr : Nat) (hL : LB ns nt nr) (M : Nat → Nat → Int32) (V : SX) (v : Int32) : Met l yX6_isNoStation [.code yX6_isNoStation cX6_isNoStation 2 (some .boolean)] ({ frames := 1, cells := 0, slots := 0, locals := 22 } : Room) (PC D cy [.ref (ad 0), .int v] (fun H => CW D cy ad ns nt nr M V H)) (RQi (bI (pOut v 0 (nI nt - 1)))) 0 0 (fun _ => False) := by
  refine k_body (by decide +kernel) (Nat.le_of_ble_eq_true rfl) ?_
  intro p e s m below meth c ls hx hb hml hown hr hlk hmn hl hG hI
  have hml9 : c.maxLocals = 2 := hml.trans hl.1
  have hl : lv_has ls 2 [(0, .ref (ad 0)), (1, .int v)] := hl
  refine lv_iload_n hx hb dX6_isNoStation_0 rfl (lv_at hl 1 rfl) ?_
  refine lv_iconst (v := 0) hx hb dX6_isNoStation_1 (by decide) ?_
  refine lv_aload_n hx hb dX6_isNoStation_2 rfl (lv_at hl 0 rfl) ?_
  refine k_get (ci := 6) (C := RX6) (T := TX6) (N := 8) (v := .int (nI nt)) hx hb hown hG rfl kin_X6 hI.o 5 (by decide) wF_X6_95 rfl dX6_isNoStation_3 ?_
  refine lv_iconst (v := 1) hx hb dX6_isNoStation_6 (by decide) ?_
  refine lv_isub hx hb dX6_isNoStation_7 ?_
  refine kc_i (kr_S (As := [.int v, .int 0, .int ((nI nt) - 1)]) (rest := []) hx hb hml hown hG (c_X6_isOutside l D cy v 0 ((nI nt) - 1)) cf_X6_isOutside wM_X6_34 trivial ⟨rfl, rfl, by decide, by decide⟩ rfl rfl (Nat.le_of_ble_eq_true rfl) ⟨Nat.le_of_ble_eq_true rfl, Nat.le_of_ble_eq_true rfl⟩ dX6_isNoStation_8) ?_
  exact ke_z hx hb hr hlk dX6_isNoStation_11 (by first | rfl | (try delta pOut; simp only [bI_true, bI_false]))
set_option maxHeartbeats 4000000 in
set_option maxRecDepth 100000 in
theorem c_X6_isNoReceiver (l : Launch) (D : va_G) (cy : Nat → ClassId) (ad : Nat → Nat) (ns nt nr : Nat) (hL : LB ns nt nr) (M : Nat → Nat → Int32) (V : SX) (v : Int32) : Met l yX6_isNoReceiver [.code yX6_isNoReceiver cX6_isNoReceiver 2 (some .boolean)] ({ frames := 1, cells := 0, slots := 0, locals := 22 } : Room) (PC D cy [.ref (ad 0), .int v] (fun H => CW D cy ad ns nt nr M V H)) (RQi (bI (pOut v 0 (nI nr - 1)))) 0 0 (fun _ => False) := by
  refine k_body (by decide +kernel) (Nat.le_of_ble_eq_true rfl) ?_
  intro p e s m below meth c ls hx hb hml hown hr hlk hmn hl hG hI
  have hml9 : c.maxLocals = 2 := hml.trans hl.1
  have hl : lv_has ls 2 [(0, .ref (ad 0)), (1, .int v)] := hl
  refine lv_iload_n hx hb dX6_isNoReceiver_0 rfl (lv_at hl 1 rfl) ?_
  refine lv_iconst (v := 0) hx hb dX6_isNoReceiver_1 (by decide) ?_
  refine lv_aload_n hx hb dX6_isNoReceiver_2 rfl (lv_at hl 0 rfl) ?_
  refine k_get (ci := 6) (C := RX6) (T := TX6) (N := 8) (v := .int (nI nr)) hx hb hown hG rfl kin_X6 hI.o 6 (by decide) wF_X6_132 rfl dX6_isNoReceiver_3 ?_
  refine lv_iconst (v := 1) hx hb dX6_isNoReceiver_6 (by decide) ?_
  refine lv_isub hx hb dX6_isNoReceiver_7 ?_
  refine kc_i (kr_S (As := [.int v, .int 0, .int ((nI nr) - 1)]) (rest := []) hx hb hml hown hG (c_X6_isOutside l D cy v 0 ((nI nr) - 1)) cf_X6_isOutside wM_X6_34 trivial ⟨rfl, rfl, by decide, by decide⟩ rfl rfl (Nat.le_of_ble_eq_true rfl) ⟨Nat.le_of_ble_eq_true rfl, Nat.le_of_ble_eq_true rfl⟩ dX6_isNoReceiver_8) ?_
  exact ke_z hx hb hr hlk dX6_isNoReceiver_11 (by first | rfl | (try delta pOut; simp only [bI_true, bI_false]))
set_option maxHeartbeats 4000000 in
set_option maxRecDepth 100000 in
theorem c_X6_setSeen (l : Launch) (D : va_G) (cy : Nat → ClassId) (ad : Nat → Nat) (ns nt nr : Nat) (hL : LB ns nt nr) (M : Nat → Nat → Int32) (V : SX) (i : Nat) (hi : i < nr) (k : Int32) : Met l yX6_setSeen [.code yX6_setSeen cX6_setSeen 5 (some .int)] ({ frames := 3, cells := 0, slots := 0, locals := 65 } : Room) (PC D cy [.ref (ad 0), .ref (ad (30 + i)), .int k] (fun H => CW D cy ad ns nt nr M V H)) (RQi (pSet (M (30 + i)) M k ns)) 0 0 (fun _ => False) := by
  refine k_body (by decide +kernel) (Nat.le_of_ble_eq_true rfl) ?_
  intro p e s m below meth c ls hx hb hml hown hr hlk hmn hl hG hI
  have hml9 : c.maxLocals = 5 := hml.trans hl.1
  have hl : lv_has ls 5 [(0, .ref (ad 0)), (1, .ref (ad (30 + i))), (2, .int k)] := hl
  refine lv_iconst (v := 0) hx hb dX6_setSeen_0 (by decide) ?_
  refine lv_istore_n (lv' := [(3, .int 0), (0, .ref (ad 0)), (1, .ref (ad (30 + i))), (2, .int k)]) hx hb dX6_setSeen_1 rfl hl (by decide) rfl (fun ls hl => ?_)
  have hml : c.maxLocals = ls.size := hml9.trans hl.1.symm
  refine lv_iconst (v := 0) hx hb dX6_setSeen_2 (by decide) ?_
  refine lv_istore (lv' := [(4, .int 0), (3, .int 0), (0, .ref (ad 0)), (1, .ref (ad (30 + i))), (2, .int k)]) hx hb dX6_setSeen_3 hl (by decide) rfl (fun ls hl => ?_)
  have hml : c.maxLocals = ls.size := hml9.trans hl.1.symm
  have lp5_1 : ∀ (n9 : Nat) (j : Nat) (acc : Int32), ns + 1 - j ≤ n9 → j ≤ ns → acc = pSet (M (30 + i)) M k j →  ∀ ls : Array Slot, lv_has ls 5 [(4, .int (nI j)), (3, .int acc), (0, .ref (ad 0)), (1, .ref (ad (30 + i))), (2, .int k)] → W p l e ({ frames := 3, cells := 0, slots := 0, locals := 65 } : Room) s m ([.ref (ad 0), .ref (ad (30 + i)), .int k] : List Value).toArray below meth c s.heap [] 0 0 (MQ below (RQi (pSet (M (30 + i)) M k ns)) ([.ref (ad 0), .ref (ad (30 + i)), .int k] : List Value).toArray s 0 0 (fun _ => False)) (F0 m 5 ls []) := by
    intro n9
    induction n9 with
    | zero =>
      intro j acc h9
      intro hj; exact absurd h9 (by omega)
    | succ n9 ih9 =>
      intro j acc hn9 hj ea ls hl
      have hml : c.maxLocals = ls.size := hml9.trans hl.1.symm
      refine lv_iload hx hb dX6_setSeen_5 (lv_at hl 0 rfl) ?_
      refine lv_aload_n hx hb dX6_setSeen_7 rfl (lv_at hl 2 rfl) ?_
      refine k_get (ci := 6) (C := RX6) (T := TX6) (N := 8) (v := .int (nI ns)) hx hb hown hG rfl kin_X6 hI.o 4 (by decide) wF_X6_47 rfl dX6_setSeen_8 ?_
      refine lv_icmp_ge (tgt := 42) hx hb dX6_setSeen_11 (by decide) (fun c_11 => ?_) (fun c_11 => ?_)
      · have enj : j = ns := Nat.le_antisymm hj ((nI_leI (by have := hL.1; have := hL.2.1; have := hL.2.2; omega) (by have := hL.1; have := hL.2.1; have := hL.2.2; omega)).mp c_11)
        refine lv_iload_n hx hb dX6_setSeen_42 rfl (lv_at hl 1 rfl) ?_
        exact ke_i hx hb hr hlk dX6_setSeen_43 (by rw [ea, enj])
      · have hltj : j < ns := by
          rcases Nat.lt_or_ge j ns with q | q
          · exact q
          · exact absurd (nI_le q (by have := hL.1; have := hL.2.1; have := hL.2.2; omega)) c_11
        refine lv_aload_n hx hb dX6_setSeen_14 rfl (lv_at hl 3 rfl) ?_
        refine lv_aload_n hx hb dX6_setSeen_15 rfl (lv_at hl 2 rfl) ?_
        refine k_get (ci := 6) (C := RX6) (T := TX6) (N := 8) (v := .ref (ad 7)) hx hb hown hG rfl kin_X6 hI.o 0 (by decide) wF_X6_11 rfl dX6_setSeen_16 ?_
        refine lv_iload hx hb dX6_setSeen_19 (lv_at hl 0 rfl) ?_
        refine k_aldq (v := (ad (10 + j))) hx hb hG 1 rfl hI.a7 (by exact vp_in_nI (Nat.lt_of_lt_of_le hltj hL.1) (by decide)) (by exact aSt hltj hL) dX6_setSeen_21 ?_
        refine lv_iload_n hx hb dX6_setSeen_22 rfl (lv_at hl 4 rfl) ?_
        refine kc_i (kr_VN (As := [.ref (ad (10 + j)), .int k]) (rest := []) hx hb hml hown hG (c_X0_canSee l D cy (ad (30 + i)) (ad (10 + j)) (ad (40 + i)) (ad (50 + i)) (M (30 + i)) (M (10 + j)) k) cf_X0_canSee wMN_X6_306 (hI.rc hL hi) rfl ⟨(hI.rc hL hi), (hI.st hL hltj)⟩ ⟨rfl, rfl, by decide, by decide⟩ rfl rfl (Nat.le_of_ble_eq_true rfl) ⟨Nat.le_of_ble_eq_true rfl, Nat.le_of_ble_eq_true rfl⟩ dX6_setSeen_23) ?_
        refine lv_if_eq (tgt := 36) hx hb dX6_setSeen_26 (by decide) (fun c_26 => ?_) (fun c_26 => ?_)
        · refine lv_iinc (v := (nI (j + 1))) (lv' := [(4, .int (nI (j + 1))), (3, .int acc), (0, .ref (ad 0)), (1, .ref (ad (30 + i))), (2, .int k)]) hx hb dX6_setSeen_36 hl (k := 0) rfl ((nI_succ j).symm) (by decide) rfl (fun ls hl => ?_)
          have hml : c.maxLocals = ls.size := hml9.trans hl.1.symm
          refine lv_goto (tgt := 5) hx hb dX6_setSeen_39 (by decide) ?_
          exact ih9 (j + 1) acc (by omega) hltj (by rw [ea]; exact (if_pos c_26).symm) ls (lv_sub hl [0, 1, 2, 3, 4] rfl)
        · refine lv_iload_n hx hb dX6_setSeen_29 rfl (lv_at hl 1 rfl) ?_
          refine lv_iconst (v := 1) hx hb dX6_setSeen_30 (by decide) ?_
          refine lv_iload hx hb dX6_setSeen_31 (lv_at hl 0 rfl) ?_
          refine lv_ishl hx hb dX6_setSeen_33 ?_
          refine lv_ior hx hb dX6_setSeen_34 ?_
          refine lv_istore_n (lv' := [(3, .int (acc ||| (1 <<< ((nI j) &&& 31)))), (4, .int (nI j)), (0, .ref (ad 0)), (1, .ref (ad (30 + i))), (2, .int k)]) hx hb dX6_setSeen_35 rfl hl (by decide) rfl (fun ls hl => ?_)
          have hml : c.maxLocals = ls.size := hml9.trans hl.1.symm
          refine lv_iinc (v := (nI (j + 1))) (lv' := [(4, .int (nI (j + 1))), (3, .int (acc ||| (1 <<< ((nI j) &&& 31)))), (0, .ref (ad 0)), (1, .ref (ad (30 + i))), (2, .int k)]) hx hb dX6_setSeen_36 hl (k := 1) rfl ((nI_succ j).symm) (by decide) rfl (fun ls hl => ?_)
          have hml : c.maxLocals = ls.size := hml9.trans hl.1.symm
          refine lv_goto (tgt := 5) hx hb dX6_setSeen_39 (by decide) ?_
          exact ih9 (j + 1) (acc ||| (1 <<< ((nI j) &&& 31))) (by omega) hltj (by rw [ea]; exact (if_neg c_26).symm) ls (lv_sub hl [0, 1, 2, 3, 4] rfl)
  exact lp5_1 (ns + 1) 0 0 (Nat.le_refl _) (Nat.zero_le _) rfl ls (lv_sub hl [0, 1, 2, 3, 4] rfl)
set_option maxHeartbeats 4000000 in
set_option maxRecDepth 100000 in
theorem c_X6_firstHeard (l : Launch) (D : va_G) (cy : Nat → ClassId) (a b : Nat) (t r : Nat → Int32) : Met l yX6_firstHeard [.code yX6_firstHeard cX6_firstHeard 3 (some .int)] ({ frames := 3, cells := 0, slots := 0, locals := 65 } : Room) (PC D cy [.ref a, .ref b] (fun H => va_P D vwCl [(a, .inr (3, stF r))] H ∧ va_P D vwCl [(b, .inr (4, snF t))] H)) (RQi (pFs t r 49 0)) 0 0 (fun _ => False) := by
  refine k_body (by decide +kernel) (Nat.le_of_ble_eq_true rfl) ?_
  intro p e s m below meth c ls hx hb hml hown hr hlk hmn hl hG hI
  have hml9 : c.maxLocals = 3 := hml.trans hl.1
  have hl : lv_has ls 3 [(0, .ref a), (1, .ref b)] := hl
  refine lv_iconst (v := 0) hx hb dX6_firstHeard_0 (by decide) ?_
  refine lv_istore_n (lv' := [(2, .int 0), (0, .ref a), (1, .ref b)]) hx hb dX6_firstHeard_1 rfl hl (by decide) rfl (fun ls hl => ?_)
  have hml : c.maxLocals = ls.size := hml9.trans hl.1.symm
  have lp2_1 : ∀ (n9 : Nat) (k f : Nat), f + 1 ≤ n9 → f + k = 49 → pFs t r f k = pFs t r 49 0 →  ∀ ls : Array Slot, lv_has ls 3 [(2, .int (nI k)), (0, .ref a), (1, .ref b)] → W p l e ({ frames := 3, cells := 0, slots := 0, locals := 65 } : Room) s m ([.ref a, .ref b] : List Value).toArray below meth c s.heap [] 0 0 (MQ below (RQi (pFs t r 49 0)) ([.ref a, .ref b] : List Value).toArray s 0 0 (fun _ => False)) (F0 m 2 ls []) := by
    intro n9
    induction n9 with
    | zero =>
      intro k f h9
      exact absurd h9 (by omega)
    | succ n9 ih9 =>
      intro k f hn9 hk ef ls hl
      have hml : c.maxLocals = ls.size := hml9.trans hl.1.symm
      refine lv_iload_n hx hb dX6_firstHeard_2 rfl (lv_at hl 0 rfl) ?_
      refine lv_bipush (v := 48) hx hb dX6_firstHeard_3 (by decide) ?_
      refine lv_icmp_gt (tgt := 25) hx hb dX6_firstHeard_5 (by decide) (fun c_5 => ?_) (fun c_5 => ?_)
      · have ek : k = 49 := (g48 k (by omega)).mp c_5
        have e0 : f = 0 := by omega
        subst e0
        refine lv_iconst (v := (-1)) hx hb dX6_firstHeard_25 (by decide) ?_
        exact ke_i hx hb hr hlk dX6_firstHeard_26 (by rw [← ef]; rfl)
      · have hk2 : k < 49 := by
          have := mt (g48 k (by omega)).mpr c_5
          omega
        obtain ⟨f2, rfl⟩ : ∃ f2, f = f2 + 1 := ⟨f - 1, by omega⟩
        refine lv_aload_n hx hb dX6_firstHeard_8 rfl (lv_at hl 2 rfl) ?_
        refine lv_aload_n hx hb dX6_firstHeard_9 rfl (lv_at hl 1 rfl) ?_
        refine lv_iload_n hx hb dX6_firstHeard_10 rfl (lv_at hl 0 rfl) ?_
        refine kc_i (kr_VN (As := [.ref a, .int (nI k)]) (rest := []) hx hb hml hown hG (c_X4_canHear l D cy b a t r (nI k)) cf_X4_canHear wMN_X6_108 hI.2 rfl ⟨hI.2, hI.1⟩ ⟨rfl, rfl, by decide, by decide⟩ rfl rfl (Nat.le_of_ble_eq_true rfl) ⟨Nat.le_of_ble_eq_true rfl, Nat.le_of_ble_eq_true rfl⟩ dX6_firstHeard_11) ?_
        refine lv_if_eq (tgt := 19) hx hb dX6_firstHeard_14 (by decide) (fun c_14 => ?_) (fun c_14 => ?_)
        · refine lv_iinc (v := (nI (k + 1))) (lv' := [(2, .int (nI (k + 1))), (0, .ref a), (1, .ref b)]) hx hb dX6_firstHeard_19 hl (k := 0) rfl ((nI_succ k).symm) (by decide) rfl (fun ls hl => ?_)
          have hml : c.maxLocals = ls.size := hml9.trans hl.1.symm
          refine lv_goto (tgt := 2) hx hb dX6_firstHeard_22 (by decide) ?_
          exact ih9 (k + 1) f2 (by omega) (by omega) (by rw [← ef]; exact (if_pos c_14).symm) ls (lv_sub hl [0, 1, 2] rfl)
        · refine lv_iload_n hx hb dX6_firstHeard_17 rfl (lv_at hl 0 rfl) ?_
          exact ke_i hx hb hr hlk dX6_firstHeard_18 (by rw [← ef]; exact (if_neg c_14).symm)
  exact lp2_1 50 0 49 (Nat.le_refl _) rfl rfl ls (lv_sub hl [0, 1, 2] rfl)
set_option maxHeartbeats 4000000 in
set_option maxRecDepth 100000 in
theorem c_X6_codeOf (l : Launch) (D : va_G) (cy : Nat → ClassId) (ad : Nat → Nat) (ns nt nr : Nat) (hL : LB ns nt nr) (M : Nat → Nat → Int32) (V : SX) (i j : Nat) (hi : i < nr) (hj : j < ns) : Met l yX6_codeOf [.code yX6_codeOf cX6_codeOf 4 (some .int)] ({ frames := 3, cells := 0, slots := 0, locals := 69 } : Room) (PC D cy [.ref (ad 0), .ref (ad (30 + i)), .int (nI j)] (fun H => CW D cy ad ns nt nr M V H)) (RQi (pCode (M 0 0) (M (30 + i)) (M (10 + j)) j)) 0 0 (fun _ => False) := by
  refine k_body (by decide +kernel) (Nat.le_of_ble_eq_true rfl) ?_
  intro p e s m below meth c ls hx hb hml hown hr hlk hmn hl hG hI
  have hml9 : c.maxLocals = 4 := hml.trans hl.1
  have hl : lv_has ls 4 [(0, .ref (ad 0)), (1, .ref (ad (30 + i))), (2, .int (nI j))] := hl
  refine lv_bipush (v := 7) hx hb dX6_codeOf_0 (by decide) ?_
  refine lv_aload_n hx hb dX6_codeOf_2 rfl (lv_at hl 0 rfl) ?_
  refine k_get (ci := 6) (C := RX6) (T := TX6) (N := 8) (v := .int (M 0 0)) hx hb hown hG rfl kin_X6 hI.o 7 (by decide) wF_X6_114 rfl dX6_codeOf_3 ?_
  refine lv_imul hx hb dX6_codeOf_6 ?_
  refine lv_iconst (v := 3) hx hb dX6_codeOf_7 (by decide) ?_
  refine lv_iload_n hx hb dX6_codeOf_8 rfl (lv_at hl 2 rfl) ?_
  refine lv_imul hx hb dX6_codeOf_9 ?_
  refine lv_iadd hx hb dX6_codeOf_10 ?_
  refine lv_iconst (v := 2) hx hb dX6_codeOf_11 (by decide) ?_
  refine lv_aload_n hx hb dX6_codeOf_12 rfl (lv_at hl 1 rfl) ?_
  refine k_getN (ci := 0) (C := RX0) (T := TX0) (N := 13) (v := .int ((M (30 + i)) 0)) hx hb hown hG rfl kin_X0 (hI.rc hL hi) 0 (by decide) wFN_X6_323 rfl dX6_codeOf_13 ?_
  refine lv_imul hx hb dX6_codeOf_16 ?_
  refine lv_iadd hx hb dX6_codeOf_17 ?_
  refine lv_iconst (v := 5) hx hb dX6_codeOf_18 (by decide) ?_
  refine kc_i (kr_S (As := [.int (((7 * (M 0 0)) + (3 * (nI j))) + (2 * (M (30 + i)) 0)), .int 5]) (rest := []) hx hb hml hown hG (c_J9_floorMod_7cf53 l D cy (((7 * (M 0 0)) + (3 * (nI j))) + (2 * (M (30 + i)) 0)) 5 (by decide)) cf_J9_floorMod_7cf53 wM_X6_73 trivial ⟨rfl, rfl, by decide, by decide⟩ rfl rfl (Nat.le_of_ble_eq_true rfl) ⟨Nat.le_of_ble_eq_true rfl, Nat.le_of_ble_eq_true rfl⟩ dX6_codeOf_19) ?_
  refine lv_iconst (v := 2) hx hb dX6_codeOf_22 (by decide) ?_
  refine lv_isub hx hb dX6_codeOf_23 ?_
  refine lv_istore_n (lv' := [(3, .int ((pFMod (((7 * (M 0 0)) + (3 * (nI j))) + (2 * (M (30 + i)) 0)) 5) - 2)), (0, .ref (ad 0)), (1, .ref (ad (30 + i))), (2, .int (nI j))]) hx hb dX6_codeOf_24 rfl hl (by decide) rfl (fun ls hl => ?_)
  have hml : c.maxLocals = ls.size := hml9.trans hl.1.symm
  refine lv_aload_n hx hb dX6_codeOf_25 rfl (lv_at hl 2 rfl) ?_
  refine lv_aload_n hx hb dX6_codeOf_26 rfl (lv_at hl 1 rfl) ?_
  refine k_get (ci := 6) (C := RX6) (T := TX6) (N := 8) (v := .ref (ad 7)) hx hb hown hG rfl kin_X6 hI.o 0 (by decide) wF_X6_11 rfl dX6_codeOf_27 ?_
  refine lv_iload_n hx hb dX6_codeOf_30 rfl (lv_at hl 3 rfl) ?_
  refine k_aldq (v := (ad (10 + j))) hx hb hG 1 rfl hI.a7 (by exact vp_in_nI (Nat.lt_of_lt_of_le hj hL.1) (by decide)) (by exact aSt hj hL) dX6_codeOf_31 ?_
  refine kc_i (kr_VN (As := [.ref (ad (10 + j))]) (rest := []) hx hb hml hown hG (c_X0_trueCount l D cy (ad (30 + i)) (ad (10 + j)) (ad (40 + i)) (ad (50 + i)) (M (30 + i)) (M (10 + j)) ) cf_X0_trueCount wMN_X6_309 (hI.rc hL hi) rfl ⟨(hI.rc hL hi), (hI.st hL hj)⟩ ⟨rfl, rfl, by decide, by decide⟩ rfl rfl (Nat.le_of_ble_eq_true rfl) ⟨Nat.le_of_ble_eq_true rfl, Nat.le_of_ble_eq_true rfl⟩ dX6_codeOf_32) ?_
  refine lv_aload_n hx hb dX6_codeOf_35 rfl (lv_at hl 2 rfl) ?_
  refine lv_aload_n hx hb dX6_codeOf_36 rfl (lv_at hl 1 rfl) ?_
  refine k_get (ci := 6) (C := RX6) (T := TX6) (N := 8) (v := .ref (ad 7)) hx hb hown hG rfl kin_X6 hI.o 0 (by decide) wF_X6_11 rfl dX6_codeOf_37 ?_
  refine lv_iload_n hx hb dX6_codeOf_40 rfl (lv_at hl 3 rfl) ?_
  refine k_aldq (v := (ad (10 + j))) hx hb hG 1 rfl hI.a7 (by exact vp_in_nI (Nat.lt_of_lt_of_le hj hL.1) (by decide)) (by exact aSt hj hL) dX6_codeOf_41 ?_
  refine kc_i (kr_VN (As := [.ref (ad (10 + j))]) (rest := [.int (pTrue (M (30 + i)) (M (10 + j)))]) hx hb hml hown hG (c_X0_airDelay l D cy (ad (30 + i)) (ad (10 + j)) (ad (40 + i)) (ad (50 + i)) (M (30 + i)) (M (10 + j)) ) cf_X0_airDelay wMN_X6_326 (hI.rc hL hi) rfl ⟨(hI.rc hL hi), (hI.st hL hj)⟩ ⟨rfl, rfl, by decide, by decide⟩ rfl rfl (Nat.le_of_ble_eq_true rfl) ⟨Nat.le_of_ble_eq_true rfl, Nat.le_of_ble_eq_true rfl⟩ dX6_codeOf_42) ?_
  refine lv_iadd hx hb dX6_codeOf_45 ?_
  refine lv_iload_n hx hb dX6_codeOf_46 rfl (lv_at hl 0 rfl) ?_
  refine lv_iadd hx hb dX6_codeOf_47 ?_
  exact ke_i hx hb hr hlk dX6_codeOf_48 (by first | rfl | (try delta pCode; try delta pNoise; simp only [bI_true, bI_false]))
set_option maxHeartbeats 4000000 in
set_option maxRecDepth 100000 in
theorem c_X6_correctionOf (l : Launch) (D : va_G) (cy : Nat → ClassId) (ad : Nat → Nat) (ns nt nr : Nat) (hL : LB ns nt nr) (M : Nat → Nat → Int32) (V : SX) (i j : Nat) (hi : i < nr) (hj : j < ns) : Met l yX6_correctionOf [.code yX6_correctionOf cX6_correctionOf 4 (some .int)] ({ frames := 2, cells := 0, slots := 0, locals := 43 } : Room) (PC D cy [.ref (ad 0), .ref (ad (30 + i)), .int (nI j)] (fun H => CW D cy ad ns nt nr M V H)) (RQi (pCorr M nr i j)) 0 0 (fun _ => False) := by
  refine k_body (by decide +kernel) (Nat.le_of_ble_eq_true rfl) ?_
  intro p e s m below meth c ls hx hb hml hown hr hlk hmn hl hG hI
  have hml9 : c.maxLocals = 4 := hml.trans hl.1
  have hl : lv_has ls 4 [(0, .ref (ad 0)), (1, .ref (ad (30 + i))), (2, .int (nI j))] := hl
  refine lv_aload_n hx hb dX6_correctionOf_0 rfl (lv_at hl 0 rfl) ?_
  refine lv_aload_n hx hb dX6_correctionOf_1 rfl (lv_at hl 1 rfl) ?_
  refine k_getN (ci := 0) (C := RX0) (T := TX0) (N := 13) (v := .int ((M (30 + i)) 12)) hx hb hown hG rfl kin_X0 (hI.rc hL hi) 12 (by decide) wFN_X6_194 rfl dX6_correctionOf_2 ?_
  refine kc_i (kr_V (As := [.int ((M (30 + i)) 12)]) (rest := []) hx hb hml hown hG (c_X6_isNoReceiver l D cy ad ns nt nr hL M V ((M (30 + i)) 12)) cf_X6_isNoReceiver wM_X6_140 hI.o rfl hI ⟨rfl, rfl, by decide, by decide⟩ rfl rfl (Nat.le_of_ble_eq_true rfl) ⟨Nat.le_of_ble_eq_true rfl, Nat.le_of_ble_eq_true rfl⟩ dX6_correctionOf_5) ?_
  refine lv_if_eq (tgt := 13) hx hb dX6_correctionOf_8 (by decide) (fun c_8 => ?_) (fun c_8 => ?_)
  · obtain ⟨r, hr9, er⟩ := pOut_f (Nat.le_trans hL.2.2 (by decide)) c_8
    have hlr := Nat.lt_of_lt_of_le hr9 hL.2.2
    refine lv_aload_n hx hb dX6_correctionOf_13 rfl (lv_at hl 0 rfl) ?_
    refine k_get (ci := 6) (C := RX6) (T := TX6) (N := 8) (v := .ref (ad 9)) hx hb hown hG rfl kin_X6 hI.o 2 (by decide) wF_X6_23 rfl dX6_correctionOf_14 ?_
    refine lv_aload_n hx hb dX6_correctionOf_17 rfl (lv_at hl 1 rfl) ?_
    refine k_getN (ci := 0) (C := RX0) (T := TX0) (N := 13) (v := .int ((M (30 + i)) 12)) hx hb hown hG rfl kin_X0 (hI.rc hL hi) 12 (by decide) wFN_X6_194 rfl dX6_correctionOf_18 ?_
    refine k_aldq (v := (ad (30 + r))) hx hb hG 3 rfl hI.a9 (by rw [er]; exact vp_in_nI (Nat.lt_of_lt_of_le hr9 hL.2.2) (by decide)) (by rw [er]; exact aRc hr9 hL) dX6_correctionOf_21 ?_
    refine lv_astore_n (lv' := [(3, .ref (ad (30 + r))), (0, .ref (ad 0)), (1, .ref (ad (30 + i))), (2, .int (nI j))]) hx hb dX6_correctionOf_22 rfl hl (by decide) rfl (fun ls hl => ?_)
    have hml : c.maxLocals = ls.size := hml9.trans hl.1.symm
    refine lv_aload_n hx hb dX6_correctionOf_23 rfl (lv_at hl 0 rfl) ?_
    refine k_getN (ci := 0) (C := RX0) (T := TX0) (N := 13) (v := .ref (ad (50 + r))) hx hb hown hG rfl kin_X0 (hI.rc hL hr9) 3 (by decide) wFN_X6_202 rfl dX6_correctionOf_24 ?_
    refine lv_aload_n hx hb dX6_correctionOf_27 rfl (lv_at hl 1 rfl) ?_
    refine k_get (ci := 6) (C := RX6) (T := TX6) (N := 8) (v := .int (M 0 0)) hx hb hown hG rfl kin_X6 hI.o 7 (by decide) wF_X6_114 rfl dX6_correctionOf_28 ?_
    refine lv_iconst (v := 5) hx hb dX6_correctionOf_31 (by decide) ?_
    refine lv_isub hx hb dX6_correctionOf_32 ?_
    refine kc_i (kr_VN (As := [.int ((M 0 0) - 5)]) (rest := []) hx hb hml hown hG (c_X5_hasObservedSince l D cy (ad (50 + r)) (M (50 + r)) ((M 0 0) - 5)) cf_X5_hasObservedSince wMN_X6_369 (hI.tk hL hr9) rfl (hI.tk hL hr9) ⟨rfl, rfl, by decide, by decide⟩ rfl rfl (Nat.le_of_ble_eq_true rfl) ⟨Nat.le_of_ble_eq_true rfl, Nat.le_of_ble_eq_true rfl⟩ dX6_correctionOf_33) ?_
    refine lv_if_eq (tgt := 51) hx hb dX6_correctionOf_36 (by decide) (fun c_36 => ?_) (fun c_36 => ?_)
    · refine lv_iconst (v := 0) hx hb dX6_correctionOf_51 (by decide) ?_
      exact ke_i hx hb hr hlk dX6_correctionOf_52 (by unfold pCorr; rw [if_pos c_8, er, nI_clamp (by omega)]; rw [if_pos c_36])
    · refine lv_aload_n hx hb dX6_correctionOf_39 rfl (lv_at hl 0 rfl) ?_
      refine k_getN (ci := 0) (C := RX0) (T := TX0) (N := 13) (v := .ref (ad (40 + r))) hx hb hown hG rfl kin_X0 (hI.rc hL hr9) 2 (by decide) wFN_X6_247 rfl dX6_correctionOf_40 ?_
      refine lv_iload_n hx hb dX6_correctionOf_43 rfl (lv_at hl 3 rfl) ?_
      refine k_aldq (v := (ad (60 + 8 * r + j))) hx hb hG 4 rfl (hI.ga hL hr9) (by exact vp_in_nI (Nat.lt_of_lt_of_le hj hL.1) (by decide)) (by exact aSg (i := r) (Nat.lt_of_lt_of_le hj hL.1)) dX6_correctionOf_44 ?_
      refine k_getN (ci := 1) (C := RX1) (T := TX1) (N := 11) (v := .int ((M (60 + 8 * r + j)) 2)) hx hb hown hG rfl kin_X1 (hI.sg hL hr9 (Nat.lt_of_lt_of_le hj hL.1)) 2 (by decide) wFN_X6_338 rfl dX6_correctionOf_45 ?_
      refine lv_if_ne (tgt := 53) hx hb dX6_correctionOf_48 (by decide) (fun c_48 => ?_) (fun c_48 => ?_)
      · refine lv_aload_n hx hb dX6_correctionOf_53 rfl (lv_at hl 0 rfl) ?_
        refine k_getN (ci := 0) (C := RX0) (T := TX0) (N := 13) (v := .ref (ad (40 + r))) hx hb hown hG rfl kin_X0 (hI.rc hL hr9) 2 (by decide) wFN_X6_247 rfl dX6_correctionOf_54 ?_
        refine lv_iload_n hx hb dX6_correctionOf_57 rfl (lv_at hl 3 rfl) ?_
        refine k_aldq (v := (ad (60 + 8 * r + j))) hx hb hG 4 rfl (hI.ga hL hr9) (by exact vp_in_nI (Nat.lt_of_lt_of_le hj hL.1) (by decide)) (by exact aSg (i := r) (Nat.lt_of_lt_of_le hj hL.1)) dX6_correctionOf_58 ?_
        refine k_getN (ci := 1) (C := RX1) (T := TX1) (N := 11) (v := .int ((M (60 + 8 * r + j)) 10)) hx hb hown hG rfl kin_X1 (hI.sg hL hr9 (Nat.lt_of_lt_of_le hj hL.1)) 10 (by decide) wFN_X6_372 rfl dX6_correctionOf_59 ?_
        exact ke_i hx hb hr hlk dX6_correctionOf_62 (by unfold pCorr; rw [if_pos c_8, er, nI_clamp (by omega)]; rw [if_neg c_36, if_neg c_48])
      · refine lv_iconst (v := 0) hx hb dX6_correctionOf_51 (by decide) ?_
        exact ke_i hx hb hr hlk dX6_correctionOf_52 (by unfold pCorr; rw [if_pos c_8, er, nI_clamp (by omega)]; rw [if_neg c_36, if_pos c_48])
  · refine lv_iconst (v := 0) hx hb dX6_correctionOf_11 (by decide) ?_
    exact ke_i hx hb hr hlk dX6_correctionOf_12 (by unfold pCorr; rw [if_neg c_8])
set_option maxHeartbeats 4000000 in
set_option maxRecDepth 100000 in
theorem c_X6_tooFar (l : Launch) (D : va_G) (cy : Nat → ClassId) (ad : Nat → Nat) (ns nt nr : Nat) (hL : LB ns nt nr) (M : Nat → Nat → Int32) (V : SX) (i j : Nat) (hi : i < nr) (hj : j < ns) (ms : Int32) : Met l yX6_tooFar [.code yX6_tooFar cX6_tooFar 5 (some .int)] ({ frames := 2, cells := 0, slots := 0, locals := 46 } : Room) (PC D cy [.ref (ad 0), .ref (ad (30 + i)), .ref (ad (10 + j)), .int ms] (fun H => CW D cy ad ns nt nr M V H)) (RQi (pTooFar (M (30 + i)) (M (10 + j)) (M 0 0) ms)) 0 0 (fun _ => False) := by
  refine k_body (by decide +kernel) (Nat.le_of_ble_eq_true rfl) ?_
  intro p e s m below meth c ls hx hb hml hown hr hlk hmn hl hG hI
  have hml9 : c.maxLocals = 5 := hml.trans hl.1
  have hl : lv_has ls 5 [(0, .ref (ad 0)), (1, .ref (ad (30 + i))), (2, .ref (ad (10 + j))), (3, .int ms)] := hl
  refine lv_aload_n hx hb dX6_tooFar_0 rfl (lv_at hl 1 rfl) ?_
  refine k_getN (ci := 0) (C := RX0) (T := TX0) (N := 13) (v := .int ((M (30 + i)) 4)) hx hb hown hG rfl kin_X0 (hI.rc hL hi) 4 (by decide) wFN_X6_147 rfl dX6_tooFar_1 ?_
  refine lv_aload_n hx hb dX6_tooFar_4 rfl (lv_at hl 1 rfl) ?_
  refine k_getN (ci := 0) (C := RX0) (T := TX0) (N := 13) (v := .int ((M (30 + i)) 5)) hx hb hown hG rfl kin_X0 (hI.rc hL hi) 5 (by decide) wFN_X6_150 rfl dX6_tooFar_5 ?_
  refine lv_aload_n hx hb dX6_tooFar_8 rfl (lv_at hl 2 rfl) ?_
  refine lv_aload_n hx hb dX6_tooFar_9 rfl (lv_at hl 0 rfl) ?_
  refine k_get (ci := 6) (C := RX6) (T := TX6) (N := 8) (v := .int (M 0 0)) hx hb hown hG rfl kin_X6 hI.o 7 (by decide) wF_X6_114 rfl dX6_tooFar_10 ?_
  refine kc_i (kr_VN (As := [.int (M 0 0)]) (rest := [.int ((M (30 + i)) 5), .int ((M (30 + i)) 4)]) hx hb hml hown hG (c_X3_toldX l D cy (ad (10 + j)) (M (10 + j)) (M 0 0)) cf_X3_toldX wMN_X6_358 (hI.st hL hj) rfl (hI.st hL hj) ⟨rfl, rfl, by decide, by decide⟩ rfl rfl (Nat.le_of_ble_eq_true rfl) ⟨Nat.le_of_ble_eq_true rfl, Nat.le_of_ble_eq_true rfl⟩ dX6_tooFar_13) ?_
  refine lv_aload_n hx hb dX6_tooFar_16 rfl (lv_at hl 2 rfl) ?_
  refine lv_aload_n hx hb dX6_tooFar_17 rfl (lv_at hl 0 rfl) ?_
  refine k_get (ci := 6) (C := RX6) (T := TX6) (N := 8) (v := .int (M 0 0)) hx hb hown hG rfl kin_X6 hI.o 7 (by decide) wF_X6_114 rfl dX6_tooFar_18 ?_
  refine kc_i (kr_VN (As := [.int (M 0 0)]) (rest := [.int (pTX (M (10 + j)) (M 0 0)), .int ((M (30 + i)) 5), .int ((M (30 + i)) 4)]) hx hb hml hown hG (c_X3_toldY l D cy (ad (10 + j)) (M (10 + j)) (M 0 0)) cf_X3_toldY wMN_X6_361 (hI.st hL hj) rfl (hI.st hL hj) ⟨rfl, rfl, by decide, by decide⟩ rfl rfl (Nat.le_of_ble_eq_true rfl) ⟨Nat.le_of_ble_eq_true rfl, Nat.le_of_ble_eq_true rfl⟩ dX6_tooFar_21) ?_
  refine kc_i (kr_S (As := [.int ((M (30 + i)) 4), .int ((M (30 + i)) 5), .int (pTX (M (10 + j)) (M 0 0)), .int (pTY (M (10 + j)) (M 0 0))]) (rest := []) hx hb hml hown hG (c_X6_rangeOf l D cy ((M (30 + i)) 4) ((M (30 + i)) 5) (pTX (M (10 + j)) (M 0 0)) (pTY (M (10 + j)) (M 0 0))) cf_X6_rangeOf wM_X6_153 trivial ⟨rfl, rfl, by decide, by decide⟩ rfl rfl (Nat.le_of_ble_eq_true rfl) ⟨Nat.le_of_ble_eq_true rfl, Nat.le_of_ble_eq_true rfl⟩ dX6_tooFar_24) ?_
  refine lv_istore (lv' := [(4, .int (pRange ((M (30 + i)) 4) ((M (30 + i)) 5) (pTX (M (10 + j)) (M 0 0)) (pTY (M (10 + j)) (M 0 0)))), (0, .ref (ad 0)), (1, .ref (ad (30 + i))), (2, .ref (ad (10 + j))), (3, .int ms)]) hx hb dX6_tooFar_27 hl (by decide) rfl (fun ls hl => ?_)
  have hml : c.maxLocals = ls.size := hml9.trans hl.1.symm
  refine lv_iload_n hx hb dX6_tooFar_29 rfl (lv_at hl 4 rfl) ?_
  refine lv_aload_n hx hb dX6_tooFar_30 rfl (lv_at hl 3 rfl) ?_
  refine lv_aload_n hx hb dX6_tooFar_31 rfl (lv_at hl 1 rfl) ?_
  refine k_get (ci := 6) (C := RX6) (T := TX6) (N := 8) (v := .int (M 0 0)) hx hb hown hG rfl kin_X6 hI.o 7 (by decide) wF_X6_114 rfl dX6_tooFar_32 ?_
  refine kc_i (kr_VN (As := [.int (M 0 0)]) (rest := [.int ms]) hx hb hml hown hG (c_X3_toldClock l D cy (ad (10 + j)) (M (10 + j)) (M 0 0)) cf_X3_toldClock wMN_X6_364 (hI.st hL hj) rfl (hI.st hL hj) ⟨rfl, rfl, by decide, by decide⟩ rfl rfl (Nat.le_of_ble_eq_true rfl) ⟨Nat.le_of_ble_eq_true rfl, Nat.le_of_ble_eq_true rfl⟩ dX6_tooFar_35) ?_
  refine lv_isub hx hb dX6_tooFar_38 ?_
  refine lv_iload hx hb dX6_tooFar_39 (lv_at hl 0 rfl) ?_
  refine lv_isub hx hb dX6_tooFar_41 ?_
  exact ke_i hx hb hr hlk dX6_tooFar_42 (by first | rfl | (try delta pTooFar; simp only [bI_true, bI_false]))
set_option maxHeartbeats 4000000 in
set_option maxRecDepth 100000 in
theorem c_X6_alarmOf (l : Launch) (D : va_G) (cy : Nat → ClassId) (ad : Nat → Nat) (ns nt nr : Nat) (hL : LB ns nt nr) (M : Nat → Nat → Int32) (V : SX) (i : Nat) (hi : i < nr) (wl : Int32) : Met l yX6_alarmOf [.code yX6_alarmOf cX6_alarmOf 3 (some .int)] ({ frames := 3, cells := 0, slots := 0, locals := 69 } : Room) (PC D cy [.ref (ad 0), .ref (ad (30 + i)), .int wl] (fun H => CW D cy ad ns nt nr M V H)) (RQi (pAlarm V.1 V.2.1 (M (30 + i)) (M (50 + i)) wl (M 0 0))) 0 0 (fun _ => False) := by
  refine k_body (by decide +kernel) (Nat.le_of_ble_eq_true rfl) ?_
  intro p e s m below meth c ls hx hb hml hown hr hlk hmn hl hG hI
  have hml9 : c.maxLocals = 3 := hml.trans hl.1
  have hl : lv_has ls 3 [(0, .ref (ad 0)), (1, .ref (ad (30 + i))), (2, .int wl)] := hl
  refine lv_aload_n hx hb dX6_alarmOf_0 rfl (lv_at hl 0 rfl) ?_
  refine k_get (ci := 6) (C := RX6) (T := TX6) (N := 8) (v := .ref (ad 1)) hx hb hown hG rfl kin_X6 hI.o 3 (by decide) wF_X6_30 rfl dX6_alarmOf_1 ?_
  refine k_getN (ci := 2) (C := RX2) (T := TX2) (N := 15) (v := .int (V.1 5)) hx hb hown hG rfl kin_X2 hI.sv.1 5 (by decide) wFN_X6_382 rfl dX6_alarmOf_4 ?_
  refine lv_iconst (v := 4) hx hb dX6_alarmOf_7 (by decide) ?_
  refine lv_icmp_ge (tgt := 13) hx hb dX6_alarmOf_8 (by decide) (fun c_8 => ?_) (fun c_8 => ?_)
  · refine lv_aload_n hx hb dX6_alarmOf_13 rfl (lv_at hl 0 rfl) ?_
    refine k_get (ci := 6) (C := RX6) (T := TX6) (N := 8) (v := .ref (ad 1)) hx hb hown hG rfl kin_X6 hI.o 3 (by decide) wF_X6_30 rfl dX6_alarmOf_14 ?_
    refine k_getN (ci := 2) (C := RX2) (T := TX2) (N := 15) (v := .long V.2.1) hx hb hown hG rfl kin_X2 hI.sv.1 9 (by decide) wFN_X6_385 rfl dX6_alarmOf_17 ?_
    refine lv_bipush (v := 40) hx hb dX6_alarmOf_20 (by decide) ?_
    refine lv_aload_n hx hb dX6_alarmOf_22 rfl (lv_at hl 0 rfl) ?_
    refine k_get (ci := 6) (C := RX6) (T := TX6) (N := 8) (v := .ref (ad 1)) hx hb hown hG rfl kin_X6 hI.o 3 (by decide) wF_X6_30 rfl dX6_alarmOf_23 ?_
    refine k_getN (ci := 2) (C := RX2) (T := TX2) (N := 15) (v := .int (V.1 5)) hx hb hown hG rfl kin_X2 hI.sv.1 5 (by decide) wFN_X6_382 rfl dX6_alarmOf_26 ?_
    refine lv_imul hx hb dX6_alarmOf_29 ?_
    refine lv_i2l (v := (40 * V.1 5).toInt64) hx hb dX6_alarmOf_30 rfl ?_
    refine W.lcmp hx hb dX6_alarmOf_31 ?_
    refine lv_if_le (tgt := 37) hx hb dX6_alarmOf_32 (by decide) (fun c_32 => ?_) (fun c_32 => ?_)
    · refine lv_aload_n hx hb dX6_alarmOf_37 rfl (lv_at hl 0 rfl) ?_
      refine k_get (ci := 6) (C := RX6) (T := TX6) (N := 8) (v := .ref (ad 1)) hx hb hown hG rfl kin_X6 hI.o 3 (by decide) wF_X6_30 rfl dX6_alarmOf_38 ?_
      refine k_getN (ci := 2) (C := RX2) (T := TX2) (N := 15) (v := .int (V.1 10)) hx hb hown hG rfl kin_X2 hI.sv.1 10 (by decide) wFN_X6_389 rfl dX6_alarmOf_41 ?_
      refine lv_aload_n hx hb dX6_alarmOf_44 rfl (lv_at hl 1 rfl) ?_
      refine k_getN (ci := 0) (C := RX0) (T := TX0) (N := 13) (v := .int ((M (30 + i)) 10)) hx hb hown hG rfl kin_X0 (hI.rc hL hi) 10 (by decide) wFN_X6_184 rfl dX6_alarmOf_45 ?_
      refine lv_icmp_le (tgt := 53) hx hb dX6_alarmOf_48 (by decide) (fun c_48 => ?_) (fun c_48 => ?_)
      · refine lv_iload_n hx hb dX6_alarmOf_53 rfl (lv_at hl 2 rfl) ?_
        refine lv_if_eq (tgt := 89) hx hb dX6_alarmOf_54 (by decide) (fun c_54 => ?_) (fun c_54 => ?_)
        · refine lv_iconst (v := 0) hx hb dX6_alarmOf_89 (by decide) ?_
          exact ke_i hx hb hr hlk dX6_alarmOf_90 (by first | rfl | (try delta pAlarm; simp only [if_pos c_8, if_pos c_32, if_pos c_48, if_pos c_54, bI_true, bI_false]))
        · refine lv_aload_n hx hb dX6_alarmOf_57 rfl (lv_at hl 1 rfl) ?_
          refine k_getN (ci := 0) (C := RX0) (T := TX0) (N := 13) (v := .ref (ad (50 + i))) hx hb hown hG rfl kin_X0 (hI.rc hL hi) 3 (by decide) wFN_X6_202 rfl dX6_alarmOf_58 ?_
          refine lv_aload_n hx hb dX6_alarmOf_61 rfl (lv_at hl 0 rfl) ?_
          refine k_get (ci := 6) (C := RX6) (T := TX6) (N := 8) (v := .ref (ad 1)) hx hb hown hG rfl kin_X6 hI.o 3 (by decide) wF_X6_30 rfl dX6_alarmOf_62 ?_
          refine k_getN (ci := 2) (C := RX2) (T := TX2) (N := 15) (v := .int (V.1 6)) hx hb hown hG rfl kin_X2 hI.sv.1 6 (by decide) wFN_X6_278 rfl dX6_alarmOf_65 ?_
          refine lv_aload_n hx hb dX6_alarmOf_68 rfl (lv_at hl 0 rfl) ?_
          refine k_get (ci := 6) (C := RX6) (T := TX6) (N := 8) (v := .ref (ad 1)) hx hb hown hG rfl kin_X6 hI.o 3 (by decide) wF_X6_30 rfl dX6_alarmOf_69 ?_
          refine k_getN (ci := 2) (C := RX2) (T := TX2) (N := 15) (v := .int (V.1 7)) hx hb hown hG rfl kin_X2 hI.sv.1 7 (by decide) wFN_X6_279 rfl dX6_alarmOf_72 ?_
          refine lv_aload_n hx hb dX6_alarmOf_75 rfl (lv_at hl 0 rfl) ?_
          refine k_get (ci := 6) (C := RX6) (T := TX6) (N := 8) (v := .int (M 0 0)) hx hb hown hG rfl kin_X6 hI.o 7 (by decide) wF_X6_114 rfl dX6_alarmOf_76 ?_
          refine kc_i (kr_VN (As := [.int (V.1 6), .int (V.1 7), .int (M 0 0)]) (rest := []) hx hb hml hown hG (c_X5_leapsTo l D cy (ad (50 + i)) (M (50 + i)) (V.1 6) (V.1 7) (M 0 0)) cf_X5_leapsTo wMN_X6_392 (hI.tk hL hi) rfl (hI.tk hL hi) ⟨rfl, rfl, by decide, by decide⟩ rfl rfl (Nat.le_of_ble_eq_true rfl) ⟨Nat.le_of_ble_eq_true rfl, Nat.le_of_ble_eq_true rfl⟩ dX6_alarmOf_79) ?_
          refine lv_if_eq (tgt := 89) hx hb dX6_alarmOf_82 (by decide) (fun c_82 => ?_) (fun c_82 => ?_)
          · refine lv_iconst (v := 0) hx hb dX6_alarmOf_89 (by decide) ?_
            exact ke_i hx hb hr hlk dX6_alarmOf_90 (by first | rfl | (try delta pAlarm; simp only [if_pos c_8, if_pos c_32, if_pos c_48, if_neg c_54, if_pos c_82, bI_true, bI_false]))
          · refine lv_iconst (v := 4) hx hb dX6_alarmOf_85 (by decide) ?_
            refine lv_goto (tgt := 90) hx hb dX6_alarmOf_86 (by decide) ?_
            exact ke_i hx hb hr hlk dX6_alarmOf_90 (by first | rfl | (try delta pAlarm; simp only [if_pos c_8, if_pos c_32, if_pos c_48, if_neg c_54, if_neg c_82, bI_true, bI_false]))
      · refine lv_iconst (v := 3) hx hb dX6_alarmOf_51 (by decide) ?_
        exact ke_i hx hb hr hlk dX6_alarmOf_52 (by first | rfl | (try delta pAlarm; simp only [if_pos c_8, if_pos c_32, if_neg c_48, bI_true, bI_false]))
    · refine lv_iconst (v := 2) hx hb dX6_alarmOf_35 (by decide) ?_
      exact ke_i hx hb hr hlk dX6_alarmOf_36 (by first | rfl | (try delta pAlarm; simp only [if_pos c_8, if_neg c_32, bI_true, bI_false]))
  · refine lv_iconst (v := 1) hx hb dX6_alarmOf_11 (by decide) ?_
    exact ke_i hx hb hr hlk dX6_alarmOf_12 (by first | rfl | (try delta pAlarm; simp only [if_neg c_8, bI_true, bI_false]))
set_option maxHeartbeats 4000000 in
set_option maxRecDepth 100000 in
theorem c_X6_tellReceiver (l : Launch) (D : va_G) (cy : Nat → ClassId) (ad : Nat → Nat) (ns nt nr : Nat) (hL : LB ns nt nr) (M : Nat → Nat → Int32) (V : SX) (i : Nat) (hi : i < nr) (w : Int32) : Met l yX6_tellReceiver [.code yX6_tellReceiver cX6_tellReceiver 3 (some .int)] ({ frames := 4, cells := 0, slots := 0, locals := 89 } : Room) (PC D cy [.ref (ad 0), .ref (ad (30 + i)), .int w] (fun H => CW D cy ad ns nt nr M V H)) (RQi (pTellR M ns i w)) 0 0 (fun _ => False) := by
  refine k_body (by decide +kernel) (Nat.le_of_ble_eq_true rfl) ?_
  intro p e s m below meth c ls hx hb hml hown hr hlk hmn hl hG hI
  have hml9 : c.maxLocals = 3 := hml.trans hl.1
  have hl : lv_has ls 3 [(0, .ref (ad 0)), (1, .ref (ad (30 + i))), (2, .int w)] := hl
  refine lv_iload_n hx hb dX6_tellReceiver_0 rfl (lv_at hl 2 rfl) ?_
  by_cases w_0 : w = 0
  · refine lv_lookup (off := 43) (tgt := 44) hx hb dX6_tellReceiver_1 (by decide) (by rw [w_0]; decide) (by decide) ?_
    refine lv_aload_n hx hb dX6_tellReceiver_44 rfl (lv_at hl 1 rfl) ?_
    refine k_getN (ci := 0) (C := RX0) (T := TX0) (N := 13) (v := .int ((M (30 + i)) 4)) hx hb hown hG rfl kin_X0 (hI.rc hL hi) 4 (by decide) wFN_X6_147 rfl dX6_tellReceiver_45 ?_
    exact ke_i hx hb hr hlk dX6_tellReceiver_48 (by first | rfl | (try delta pTellR; simp only [if_pos w_0, bI_true, bI_false]))
  by_cases w_1 : w = 1
  · refine lv_lookup (off := 48) (tgt := 49) hx hb dX6_tellReceiver_1 (by decide) (by rw [w_1]; decide) (by decide) ?_
    refine lv_aload_n hx hb dX6_tellReceiver_49 rfl (lv_at hl 1 rfl) ?_
    refine k_getN (ci := 0) (C := RX0) (T := TX0) (N := 13) (v := .int ((M (30 + i)) 5)) hx hb hown hG rfl kin_X0 (hI.rc hL hi) 5 (by decide) wFN_X6_150 rfl dX6_tellReceiver_50 ?_
    exact ke_i hx hb hr hlk dX6_tellReceiver_53 (by first | rfl | (try delta pTellR; simp only [if_neg w_0, if_pos w_1, bI_true, bI_false]))
  by_cases w_2 : w = 2
  · refine lv_lookup (off := 53) (tgt := 54) hx hb dX6_tellReceiver_1 (by decide) (by rw [w_2]; decide) (by decide) ?_
    refine lv_aload_n hx hb dX6_tellReceiver_54 rfl (lv_at hl 0 rfl) ?_
    refine lv_aload_n hx hb dX6_tellReceiver_55 rfl (lv_at hl 1 rfl) ?_
    refine lv_iconst (v := 0) hx hb dX6_tellReceiver_56 (by decide) ?_
    refine kc_i (kr_V (As := [.ref (ad (30 + i)), .int 0]) (rest := []) hx hb hml hown hG (c_X6_setSeen l D cy ad ns nt nr hL M V i hi 0) cf_X6_setSeen wM_X6_165 hI.o rfl hI ⟨rfl, rfl, by decide, by decide⟩ rfl rfl (Nat.le_of_ble_eq_true rfl) ⟨Nat.le_of_ble_eq_true rfl, Nat.le_of_ble_eq_true rfl⟩ dX6_tellReceiver_57) ?_
    refine kc_i (kr_S (As := [.int (pSet (M (30 + i)) M 0 ns)]) (rest := []) hx hb hml hown hG (c_J6_bitCount_0f7a4 l D cy (pSet (M (30 + i)) M 0 ns)) cf_J6_bitCount_0f7a4 wM_X6_169 trivial ⟨rfl, rfl, by decide, by decide⟩ rfl rfl (Nat.le_of_ble_eq_true rfl) ⟨Nat.le_of_ble_eq_true rfl, Nat.le_of_ble_eq_true rfl⟩ dX6_tellReceiver_60) ?_
    exact ke_i hx hb hr hlk dX6_tellReceiver_63 (by first | rfl | (try delta pTellR; simp only [if_neg w_0, if_neg w_1, if_pos w_2, bI_true, bI_false]))
  by_cases w_13 : w = 13
  · refine lv_lookup (off := 63) (tgt := 64) hx hb dX6_tellReceiver_1 (by decide) (by rw [w_13]; decide) (by decide) ?_
    refine lv_aload_n hx hb dX6_tellReceiver_64 rfl (lv_at hl 1 rfl) ?_
    refine k_getN (ci := 0) (C := RX0) (T := TX0) (N := 13) (v := .ref (ad (50 + i))) hx hb hown hG rfl kin_X0 (hI.rc hL hi) 3 (by decide) wFN_X6_202 rfl dX6_tellReceiver_65 ?_
    refine lv_aload_n hx hb dX6_tellReceiver_68 rfl (lv_at hl 1 rfl) ?_
    refine k_getN (ci := 0) (C := RX0) (T := TX0) (N := 13) (v := .int ((M (30 + i)) 4)) hx hb hown hG rfl kin_X0 (hI.rc hL hi) 4 (by decide) wFN_X6_147 rfl dX6_tellReceiver_69 ?_
    refine lv_aload_n hx hb dX6_tellReceiver_72 rfl (lv_at hl 1 rfl) ?_
    refine k_getN (ci := 0) (C := RX0) (T := TX0) (N := 13) (v := .int ((M (30 + i)) 5)) hx hb hown hG rfl kin_X0 (hI.rc hL hi) 5 (by decide) wFN_X6_150 rfl dX6_tellReceiver_73 ?_
    refine kc_i (kr_VN (As := [.int ((M (30 + i)) 4), .int ((M (30 + i)) 5)]) (rest := []) hx hb hml hown hG (c_X5_errorAt l D cy (ad (50 + i)) (M (50 + i)) ((M (30 + i)) 4) ((M (30 + i)) 5)) cf_X5_errorAt wMN_X6_395 (hI.tk hL hi) rfl (hI.tk hL hi) ⟨rfl, rfl, by decide, by decide⟩ rfl rfl (Nat.le_of_ble_eq_true rfl) ⟨Nat.le_of_ble_eq_true rfl, Nat.le_of_ble_eq_true rfl⟩ dX6_tellReceiver_76) ?_
    exact ke_i hx hb hr hlk dX6_tellReceiver_79 (by first | rfl | (try delta pTellR; simp only [if_neg w_0, if_neg w_1, if_neg w_2, if_pos w_13, bI_true, bI_false]))
  refine lv_lookup (off := 79) (tgt := 80) hx hb dX6_tellReceiver_1 (by decide) (by refine (lv_osw w_0 (by decide)).trans ?_; refine (lv_osw w_1 (by decide)).trans ?_; refine (lv_osw w_2 (by decide)).trans ?_; refine (lv_osw w_13 (by decide)).trans ?_; rfl) (by decide) ?_
  refine lv_aload_n hx hb dX6_tellReceiver_80 rfl (lv_at hl 1 rfl) ?_
  refine k_getN (ci := 0) (C := RX0) (T := TX0) (N := 13) (v := .ref (ad (50 + i))) hx hb hown hG rfl kin_X0 (hI.rc hL hi) 3 (by decide) wFN_X6_202 rfl dX6_tellReceiver_81 ?_
  refine lv_iload_n hx hb dX6_tellReceiver_84 rfl (lv_at hl 2 rfl) ?_
  refine kc_i (kr_VN (As := [.int w]) (rest := []) hx hb hml hown hG (c_X5_tell l D cy (ad (50 + i)) (M (50 + i)) w) cf_X5_tell wMN_X6_398 (hI.tk hL hi) rfl (hI.tk hL hi) ⟨rfl, rfl, by decide, by decide⟩ rfl rfl (Nat.le_of_ble_eq_true rfl) ⟨Nat.le_of_ble_eq_true rfl, Nat.le_of_ble_eq_true rfl⟩ dX6_tellReceiver_85) ?_
  exact ke_i hx hb hr hlk dX6_tellReceiver_88 (by first | rfl | (try delta pTellR; simp only [if_neg w_0, if_neg w_1, if_neg w_2, if_neg w_13, bI_true, bI_false]))
set_option maxHeartbeats 4000000 in
set_option maxRecDepth 100000 in
theorem c_X6_sumOfStars (l : Launch) (D : va_G) (cy : Nat → ClassId) (ad : Nat → Nat) (ns nt nr : Nat) (hL : LB ns nt nr) (M : Nat → Nat → Int32) (V : SX) (w : Int32) : Met l yX6_sumOfStars [.code yX6_sumOfStars cX6_sumOfStars 4 (some .int)] ({ frames := 2, cells := 0, slots := 0, locals := 43 } : Room) (PC D cy [.ref (ad 0), .int w] (fun H => CW D cy ad ns nt nr M V H)) (RQi (pSumS M w ns)) 0 0 (fun _ => False) := by
  refine k_body (by decide +kernel) (Nat.le_of_ble_eq_true rfl) ?_
  intro p e s m below meth c ls hx hb hml hown hr hlk hmn hl hG hI
  have hml9 : c.maxLocals = 4 := hml.trans hl.1
  have hl : lv_has ls 4 [(0, .ref (ad 0)), (1, .int w)] := hl
  refine lv_iconst (v := 0) hx hb dX6_sumOfStars_0 (by decide) ?_
  refine lv_istore_n (lv' := [(2, .int 0), (0, .ref (ad 0)), (1, .int w)]) hx hb dX6_sumOfStars_1 rfl hl (by decide) rfl (fun ls hl => ?_)
  have hml : c.maxLocals = ls.size := hml9.trans hl.1.symm
  refine lv_iconst (v := 0) hx hb dX6_sumOfStars_2 (by decide) ?_
  refine lv_istore_n (lv' := [(3, .int 0), (2, .int 0), (0, .ref (ad 0)), (1, .int w)]) hx hb dX6_sumOfStars_3 rfl hl (by decide) rfl (fun ls hl => ?_)
  have hml : c.maxLocals = ls.size := hml9.trans hl.1.symm
  have lp4_1 : ∀ (n9 : Nat) (j : Nat) (acc : Int32), ns + 1 - j ≤ n9 → j ≤ ns → acc = pSumS M w j →  ∀ ls : Array Slot, lv_has ls 4 [(3, .int (nI j)), (2, .int acc), (0, .ref (ad 0)), (1, .int w)] → W p l e ({ frames := 2, cells := 0, slots := 0, locals := 43 } : Room) s m ([.ref (ad 0), .int w] : List Value).toArray below meth c s.heap [] 0 0 (MQ below (RQi (pSumS M w ns)) ([.ref (ad 0), .int w] : List Value).toArray s 0 0 (fun _ => False)) (F0 m 4 ls []) := by
    intro n9
    induction n9 with
    | zero =>
      intro j acc h9
      intro hj; exact absurd h9 (by omega)
    | succ n9 ih9 =>
      intro j acc hn9 hj ea ls hl
      have hml : c.maxLocals = ls.size := hml9.trans hl.1.symm
      refine lv_iload_n hx hb dX6_sumOfStars_4 rfl (lv_at hl 0 rfl) ?_
      refine lv_aload_n hx hb dX6_sumOfStars_5 rfl (lv_at hl 2 rfl) ?_
      refine k_get (ci := 6) (C := RX6) (T := TX6) (N := 8) (v := .int (nI ns)) hx hb hown hG rfl kin_X6 hI.o 4 (by decide) wF_X6_47 rfl dX6_sumOfStars_6 ?_
      refine lv_icmp_ge (tgt := 90) hx hb dX6_sumOfStars_9 (by decide) (fun c_9 => ?_) (fun c_9 => ?_)
      · have enj : j = ns := Nat.le_antisymm hj ((nI_leI (by have := hL.1; have := hL.2.1; have := hL.2.2; omega) (by have := hL.1; have := hL.2.1; have := hL.2.2; omega)).mp c_9)
        refine lv_iload_n hx hb dX6_sumOfStars_90 rfl (lv_at hl 1 rfl) ?_
        exact ke_i hx hb hr hlk dX6_sumOfStars_91 (by rw [ea, enj])
      · have hltj : j < ns := by
          rcases Nat.lt_or_ge j ns with q | q
          · exact q
          · exact absurd (nI_le q (by have := hL.1; have := hL.2.1; have := hL.2.2; omega)) c_9
        refine lv_iload_n hx hb dX6_sumOfStars_12 rfl (lv_at hl 3 rfl) ?_
        refine lv_iconst (v := 4) hx hb dX6_sumOfStars_13 (by decide) ?_
        refine lv_icmp_ne (tgt := 40) hx hb dX6_sumOfStars_14 (by decide) (fun c_14 => ?_) (fun c_14 => ?_)
        · refine lv_iload_n hx hb dX6_sumOfStars_40 rfl (lv_at hl 3 rfl) ?_
          refine lv_iconst (v := 5) hx hb dX6_sumOfStars_41 (by decide) ?_
          refine lv_icmp_ne (tgt := 72) hx hb dX6_sumOfStars_42 (by decide) (fun c_42 => ?_) (fun c_42 => ?_)
          · refine lv_iload_n hx hb dX6_sumOfStars_72 rfl (lv_at hl 1 rfl) ?_
            refine lv_aload_n hx hb dX6_sumOfStars_73 rfl (lv_at hl 2 rfl) ?_
            refine k_get (ci := 6) (C := RX6) (T := TX6) (N := 8) (v := .ref (ad 7)) hx hb hown hG rfl kin_X6 hI.o 0 (by decide) wF_X6_11 rfl dX6_sumOfStars_74 ?_
            refine lv_iload_n hx hb dX6_sumOfStars_77 rfl (lv_at hl 0 rfl) ?_
            refine k_aldq (v := (ad (10 + j))) hx hb hG 1 rfl hI.a7 (by exact vp_in_nI (Nat.lt_of_lt_of_le hltj hL.1) (by decide)) (by exact aSt hltj hL) dX6_sumOfStars_78 ?_
            refine k_getN (ci := 3) (C := RX3) (T := TX3) (N := 11) (v := .int ((M (10 + j)) 6)) hx hb hown hG rfl kin_X3 (hI.st hL hltj) 6 (by decide) wFN_X6_123 rfl dX6_sumOfStars_79 ?_
            refine lv_iadd hx hb dX6_sumOfStars_82 ?_
            refine lv_istore_n (lv' := [(2, .int (acc + (M (10 + j)) 6)), (3, .int (nI j)), (0, .ref (ad 0)), (1, .int w)]) hx hb dX6_sumOfStars_83 rfl hl (by decide) rfl (fun ls hl => ?_)
            have hml : c.maxLocals = ls.size := hml9.trans hl.1.symm
            refine lv_iinc (v := (nI (j + 1))) (lv' := [(3, .int (nI (j + 1))), (2, .int (acc + (M (10 + j)) 6)), (0, .ref (ad 0)), (1, .int w)]) hx hb dX6_sumOfStars_84 hl (k := 1) rfl ((nI_succ j).symm) (by decide) rfl (fun ls hl => ?_)
            have hml : c.maxLocals = ls.size := hml9.trans hl.1.symm
            refine lv_goto (tgt := 4) hx hb dX6_sumOfStars_87 (by decide) ?_
            exact ih9 (j + 1) (acc + (M (10 + j)) 6) (by omega) hltj (by rw [ea, pSumS_s, if_neg c_14, if_neg c_42]) ls (lv_sub hl [0, 1, 2, 3] rfl)
          · refine lv_iload_n hx hb dX6_sumOfStars_45 rfl (lv_at hl 1 rfl) ?_
            refine lv_aload_n hx hb dX6_sumOfStars_46 rfl (lv_at hl 2 rfl) ?_
            refine k_get (ci := 6) (C := RX6) (T := TX6) (N := 8) (v := .ref (ad 7)) hx hb hown hG rfl kin_X6 hI.o 0 (by decide) wF_X6_11 rfl dX6_sumOfStars_47 ?_
            refine lv_iload_n hx hb dX6_sumOfStars_50 rfl (lv_at hl 0 rfl) ?_
            refine k_aldq (v := (ad (10 + j))) hx hb hG 1 rfl hI.a7 (by exact vp_in_nI (Nat.lt_of_lt_of_le hltj hL.1) (by decide)) (by exact aSt hltj hL) dX6_sumOfStars_51 ?_
            refine lv_aload_n hx hb dX6_sumOfStars_52 rfl (lv_at hl 2 rfl) ?_
            refine k_get (ci := 6) (C := RX6) (T := TX6) (N := 8) (v := .int (M 0 0)) hx hb hown hG rfl kin_X6 hI.o 7 (by decide) wF_X6_114 rfl dX6_sumOfStars_53 ?_
            refine kc_i (kr_VN (As := [.int (M 0 0)]) (rest := [.int acc]) hx hb hml hown hG (c_X3_messageHolds l D cy (ad (10 + j)) (M (10 + j)) (M 0 0)) cf_X3_messageHolds wMN_X6_335 (hI.st hL hltj) rfl (hI.st hL hltj) ⟨rfl, rfl, by decide, by decide⟩ rfl rfl (Nat.le_of_ble_eq_true rfl) ⟨Nat.le_of_ble_eq_true rfl, Nat.le_of_ble_eq_true rfl⟩ dX6_sumOfStars_56) ?_
            refine lv_if_eq (tgt := 66) hx hb dX6_sumOfStars_59 (by decide) (fun c_59 => ?_) (fun c_59 => ?_)
            · refine lv_iconst (v := 0) hx hb dX6_sumOfStars_66 (by decide) ?_
              refine lv_iadd hx hb dX6_sumOfStars_67 ?_
              refine lv_istore_n (lv' := [(2, .int (acc + 0)), (3, .int (nI j)), (0, .ref (ad 0)), (1, .int w)]) hx hb dX6_sumOfStars_68 rfl hl (by decide) rfl (fun ls hl => ?_)
              have hml : c.maxLocals = ls.size := hml9.trans hl.1.symm
              refine lv_goto (tgt := 84) hx hb dX6_sumOfStars_69 (by decide) ?_
              refine lv_iinc (v := (nI (j + 1))) (lv' := [(3, .int (nI (j + 1))), (2, .int (acc + 0)), (0, .ref (ad 0)), (1, .int w)]) hx hb dX6_sumOfStars_84 hl (k := 1) rfl ((nI_succ j).symm) (by decide) rfl (fun ls hl => ?_)
              have hml : c.maxLocals = ls.size := hml9.trans hl.1.symm
              refine lv_goto (tgt := 4) hx hb dX6_sumOfStars_87 (by decide) ?_
              exact ih9 (j + 1) (acc + 0) (by omega) hltj (by rw [ea, pSumS_s, if_neg c_14, if_pos c_42, if_pos c_59]) ls (lv_sub hl [0, 1, 2, 3] rfl)
            · refine lv_iconst (v := 1) hx hb dX6_sumOfStars_62 (by decide) ?_
              refine lv_goto (tgt := 67) hx hb dX6_sumOfStars_63 (by decide) ?_
              refine lv_iadd hx hb dX6_sumOfStars_67 ?_
              refine lv_istore_n (lv' := [(2, .int (acc + 1)), (3, .int (nI j)), (0, .ref (ad 0)), (1, .int w)]) hx hb dX6_sumOfStars_68 rfl hl (by decide) rfl (fun ls hl => ?_)
              have hml : c.maxLocals = ls.size := hml9.trans hl.1.symm
              refine lv_goto (tgt := 84) hx hb dX6_sumOfStars_69 (by decide) ?_
              refine lv_iinc (v := (nI (j + 1))) (lv' := [(3, .int (nI (j + 1))), (2, .int (acc + 1)), (0, .ref (ad 0)), (1, .int w)]) hx hb dX6_sumOfStars_84 hl (k := 1) rfl ((nI_succ j).symm) (by decide) rfl (fun ls hl => ?_)
              have hml : c.maxLocals = ls.size := hml9.trans hl.1.symm
              refine lv_goto (tgt := 4) hx hb dX6_sumOfStars_87 (by decide) ?_
              exact ih9 (j + 1) (acc + 1) (by omega) hltj (by rw [ea, pSumS_s, if_neg c_14, if_pos c_42, if_neg c_59]) ls (lv_sub hl [0, 1, 2, 3] rfl)
        · refine lv_iload_n hx hb dX6_sumOfStars_17 rfl (lv_at hl 1 rfl) ?_
          refine lv_aload_n hx hb dX6_sumOfStars_18 rfl (lv_at hl 2 rfl) ?_
          refine k_get (ci := 6) (C := RX6) (T := TX6) (N := 8) (v := .ref (ad 7)) hx hb hown hG rfl kin_X6 hI.o 0 (by decide) wF_X6_11 rfl dX6_sumOfStars_19 ?_
          refine lv_iload_n hx hb dX6_sumOfStars_22 rfl (lv_at hl 0 rfl) ?_
          refine k_aldq (v := (ad (10 + j))) hx hb hG 1 rfl hI.a7 (by exact vp_in_nI (Nat.lt_of_lt_of_le hltj hL.1) (by decide)) (by exact aSt hltj hL) dX6_sumOfStars_23 ?_
          refine k_getN (ci := 3) (C := RX3) (T := TX3) (N := 11) (v := .int ((M (10 + j)) 5)) hx hb hown hG rfl kin_X3 (hI.st hL hltj) 5 (by decide) wFN_X6_89 rfl dX6_sumOfStars_24 ?_
          refine lv_if_eq (tgt := 34) hx hb dX6_sumOfStars_27 (by decide) (fun c_27 => ?_) (fun c_27 => ?_)
          · refine lv_iconst (v := 0) hx hb dX6_sumOfStars_34 (by decide) ?_
            refine lv_iadd hx hb dX6_sumOfStars_35 ?_
            refine lv_istore_n (lv' := [(2, .int (acc + 0)), (3, .int (nI j)), (0, .ref (ad 0)), (1, .int w)]) hx hb dX6_sumOfStars_36 rfl hl (by decide) rfl (fun ls hl => ?_)
            have hml : c.maxLocals = ls.size := hml9.trans hl.1.symm
            refine lv_goto (tgt := 84) hx hb dX6_sumOfStars_37 (by decide) ?_
            refine lv_iinc (v := (nI (j + 1))) (lv' := [(3, .int (nI (j + 1))), (2, .int (acc + 0)), (0, .ref (ad 0)), (1, .int w)]) hx hb dX6_sumOfStars_84 hl (k := 1) rfl ((nI_succ j).symm) (by decide) rfl (fun ls hl => ?_)
            have hml : c.maxLocals = ls.size := hml9.trans hl.1.symm
            refine lv_goto (tgt := 4) hx hb dX6_sumOfStars_87 (by decide) ?_
            exact ih9 (j + 1) (acc + 0) (by omega) hltj (by rw [ea, pSumS_s, if_pos c_14, if_pos c_27]) ls (lv_sub hl [0, 1, 2, 3] rfl)
          · refine lv_iconst (v := 1) hx hb dX6_sumOfStars_30 (by decide) ?_
            refine lv_goto (tgt := 35) hx hb dX6_sumOfStars_31 (by decide) ?_
            refine lv_iadd hx hb dX6_sumOfStars_35 ?_
            refine lv_istore_n (lv' := [(2, .int (acc + 1)), (3, .int (nI j)), (0, .ref (ad 0)), (1, .int w)]) hx hb dX6_sumOfStars_36 rfl hl (by decide) rfl (fun ls hl => ?_)
            have hml : c.maxLocals = ls.size := hml9.trans hl.1.symm
            refine lv_goto (tgt := 84) hx hb dX6_sumOfStars_37 (by decide) ?_
            refine lv_iinc (v := (nI (j + 1))) (lv' := [(3, .int (nI (j + 1))), (2, .int (acc + 1)), (0, .ref (ad 0)), (1, .int w)]) hx hb dX6_sumOfStars_84 hl (k := 1) rfl ((nI_succ j).symm) (by decide) rfl (fun ls hl => ?_)
            have hml : c.maxLocals = ls.size := hml9.trans hl.1.symm
            refine lv_goto (tgt := 4) hx hb dX6_sumOfStars_87 (by decide) ?_
            exact ih9 (j + 1) (acc + 1) (by omega) hltj (by rw [ea, pSumS_s, if_pos c_14, if_neg c_27]) ls (lv_sub hl [0, 1, 2, 3] rfl)
  exact lp4_1 (ns + 1) 0 0 (Nat.le_refl _) (Nat.zero_le _) rfl ls (lv_sub hl [0, 1, 2, 3] rfl)
set_option maxHeartbeats 4000000 in
set_option maxRecDepth 100000 in
theorem c_X6_sumOfReceivers (l : Launch) (D : va_G) (cy : Nat → ClassId) (ad : Nat → Nat) (ns nt nr : Nat) (hL : LB ns nt nr) (M : Nat → Nat → Int32) (V : SX) (w : Int32) : Met l yX6_sumOfReceivers [.code yX6_sumOfReceivers cX6_sumOfReceivers 4 (some .int)] ({ frames := 0, cells := 0, slots := 0, locals := 0 } : Room) (PC D cy [.ref (ad 0), .int w] (fun H => CW D cy ad ns nt nr M V H)) (RQi (pSumR M w nr)) 0 0 (fun _ => False) := by
  refine k_body (by decide +kernel) (Nat.le_of_ble_eq_true rfl) ?_
  intro p e s m below meth c ls hx hb hml hown hr hlk hmn hl hG hI
  have hml9 : c.maxLocals = 4 := hml.trans hl.1
  have hl : lv_has ls 4 [(0, .ref (ad 0)), (1, .int w)] := hl
  refine lv_iconst (v := 0) hx hb dX6_sumOfReceivers_0 (by decide) ?_
  refine lv_istore_n (lv' := [(2, .int 0), (0, .ref (ad 0)), (1, .int w)]) hx hb dX6_sumOfReceivers_1 rfl hl (by decide) rfl (fun ls hl => ?_)
  have hml : c.maxLocals = ls.size := hml9.trans hl.1.symm
  refine lv_iconst (v := 0) hx hb dX6_sumOfReceivers_2 (by decide) ?_
  refine lv_istore_n (lv' := [(3, .int 0), (2, .int 0), (0, .ref (ad 0)), (1, .int w)]) hx hb dX6_sumOfReceivers_3 rfl hl (by decide) rfl (fun ls hl => ?_)
  have hml : c.maxLocals = ls.size := hml9.trans hl.1.symm
  have lp4_1 : ∀ (n9 : Nat) (j : Nat) (acc : Int32), nr + 1 - j ≤ n9 → j ≤ nr → acc = pSumR M w j →  ∀ ls : Array Slot, lv_has ls 4 [(3, .int (nI j)), (2, .int acc), (0, .ref (ad 0)), (1, .int w)] → W p l e ({ frames := 0, cells := 0, slots := 0, locals := 0 } : Room) s m ([.ref (ad 0), .int w] : List Value).toArray below meth c s.heap [] 0 0 (MQ below (RQi (pSumR M w nr)) ([.ref (ad 0), .int w] : List Value).toArray s 0 0 (fun _ => False)) (F0 m 4 ls []) := by
    intro n9
    induction n9 with
    | zero =>
      intro j acc h9
      intro hj; exact absurd h9 (by omega)
    | succ n9 ih9 =>
      intro j acc hn9 hj ea ls hl
      have hml : c.maxLocals = ls.size := hml9.trans hl.1.symm
      refine lv_iload_n hx hb dX6_sumOfReceivers_4 rfl (lv_at hl 0 rfl) ?_
      refine lv_aload_n hx hb dX6_sumOfReceivers_5 rfl (lv_at hl 2 rfl) ?_
      refine k_get (ci := 6) (C := RX6) (T := TX6) (N := 8) (v := .int (nI nr)) hx hb hown hG rfl kin_X6 hI.o 6 (by decide) wF_X6_132 rfl dX6_sumOfReceivers_6 ?_
      refine lv_icmp_ge (tgt := 54) hx hb dX6_sumOfReceivers_9 (by decide) (fun c_9 => ?_) (fun c_9 => ?_)
      · have enj : j = nr := Nat.le_antisymm hj ((nI_leI (by have := hL.1; have := hL.2.1; have := hL.2.2; omega) (by have := hL.1; have := hL.2.1; have := hL.2.2; omega)).mp c_9)
        refine lv_iload_n hx hb dX6_sumOfReceivers_54 rfl (lv_at hl 1 rfl) ?_
        exact ke_i hx hb hr hlk dX6_sumOfReceivers_55 (by rw [ea, enj])
      · have hltj : j < nr := by
          rcases Nat.lt_or_ge j nr with q | q
          · exact q
          · exact absurd (nI_le q (by have := hL.1; have := hL.2.1; have := hL.2.2; omega)) c_9
        refine lv_iload_n hx hb dX6_sumOfReceivers_12 rfl (lv_at hl 1 rfl) ?_
        refine lv_iload_n hx hb dX6_sumOfReceivers_13 rfl (lv_at hl 3 rfl) ?_
        refine lv_bipush (v := 7) hx hb dX6_sumOfReceivers_14 (by decide) ?_
        refine lv_icmp_ne (tgt := 34) hx hb dX6_sumOfReceivers_16 (by decide) (fun c_16 => ?_) (fun c_16 => ?_)
        · refine lv_aload_n hx hb dX6_sumOfReceivers_34 rfl (lv_at hl 2 rfl) ?_
          refine k_get (ci := 6) (C := RX6) (T := TX6) (N := 8) (v := .ref (ad 9)) hx hb hown hG rfl kin_X6 hI.o 2 (by decide) wF_X6_23 rfl dX6_sumOfReceivers_35 ?_
          refine lv_iload_n hx hb dX6_sumOfReceivers_38 rfl (lv_at hl 0 rfl) ?_
          refine k_aldq (v := (ad (30 + j))) hx hb hG 3 rfl hI.a9 (by exact vp_in_nI (Nat.lt_of_lt_of_le hltj hL.2.2) (by decide)) (by exact aRc hltj hL) dX6_sumOfReceivers_39 ?_
          refine k_getN (ci := 0) (C := RX0) (T := TX0) (N := 13) (v := .ref (ad (50 + j))) hx hb hown hG rfl kin_X0 (hI.rc hL hltj) 3 (by decide) wFN_X6_202 rfl dX6_sumOfReceivers_40 ?_
          refine k_getN (ci := 5) (C := RX5) (T := TX5) (N := 13) (v := .int ((M (50 + j)) 11)) hx hb hown hG rfl kin_X5 (hI.tk hL hltj) 11 (by decide) wFN_X6_408 rfl dX6_sumOfReceivers_43 ?_
          refine lv_iadd hx hb dX6_sumOfReceivers_46 ?_
          refine lv_istore_n (lv' := [(2, .int (acc + (M (50 + j)) 11)), (3, .int (nI j)), (0, .ref (ad 0)), (1, .int w)]) hx hb dX6_sumOfReceivers_47 rfl hl (by decide) rfl (fun ls hl => ?_)
          have hml : c.maxLocals = ls.size := hml9.trans hl.1.symm
          refine lv_iinc (v := (nI (j + 1))) (lv' := [(3, .int (nI (j + 1))), (2, .int (acc + (M (50 + j)) 11)), (0, .ref (ad 0)), (1, .int w)]) hx hb dX6_sumOfReceivers_48 hl (k := 1) rfl ((nI_succ j).symm) (by decide) rfl (fun ls hl => ?_)
          have hml : c.maxLocals = ls.size := hml9.trans hl.1.symm
          refine lv_goto (tgt := 4) hx hb dX6_sumOfReceivers_51 (by decide) ?_
          exact ih9 (j + 1) (acc + (M (50 + j)) 11) (by omega) hltj (by rw [ea, pSumR_s, if_neg c_16]) ls (lv_sub hl [0, 1, 2, 3] rfl)
        · refine lv_aload_n hx hb dX6_sumOfReceivers_19 rfl (lv_at hl 2 rfl) ?_
          refine k_get (ci := 6) (C := RX6) (T := TX6) (N := 8) (v := .ref (ad 9)) hx hb hown hG rfl kin_X6 hI.o 2 (by decide) wF_X6_23 rfl dX6_sumOfReceivers_20 ?_
          refine lv_iload_n hx hb dX6_sumOfReceivers_23 rfl (lv_at hl 0 rfl) ?_
          refine k_aldq (v := (ad (30 + j))) hx hb hG 3 rfl hI.a9 (by exact vp_in_nI (Nat.lt_of_lt_of_le hltj hL.2.2) (by decide)) (by exact aRc hltj hL) dX6_sumOfReceivers_24 ?_
          refine k_getN (ci := 0) (C := RX0) (T := TX0) (N := 13) (v := .ref (ad (50 + j))) hx hb hown hG rfl kin_X0 (hI.rc hL hltj) 3 (by decide) wFN_X6_202 rfl dX6_sumOfReceivers_25 ?_
          refine k_getN (ci := 5) (C := RX5) (T := TX5) (N := 13) (v := .int ((M (50 + j)) 0)) hx hb hown hG rfl kin_X5 (hI.tk hL hltj) 0 (by decide) wFN_X6_405 rfl dX6_sumOfReceivers_28 ?_
          refine lv_goto (tgt := 46) hx hb dX6_sumOfReceivers_31 (by decide) ?_
          refine lv_iadd hx hb dX6_sumOfReceivers_46 ?_
          refine lv_istore_n (lv' := [(2, .int (acc + (M (50 + j)) 0)), (3, .int (nI j)), (0, .ref (ad 0)), (1, .int w)]) hx hb dX6_sumOfReceivers_47 rfl hl (by decide) rfl (fun ls hl => ?_)
          have hml : c.maxLocals = ls.size := hml9.trans hl.1.symm
          refine lv_iinc (v := (nI (j + 1))) (lv' := [(3, .int (nI (j + 1))), (2, .int (acc + (M (50 + j)) 0)), (0, .ref (ad 0)), (1, .int w)]) hx hb dX6_sumOfReceivers_48 hl (k := 1) rfl ((nI_succ j).symm) (by decide) rfl (fun ls hl => ?_)
          have hml : c.maxLocals = ls.size := hml9.trans hl.1.symm
          refine lv_goto (tgt := 4) hx hb dX6_sumOfReceivers_51 (by decide) ?_
          exact ih9 (j + 1) (acc + (M (50 + j)) 0) (by omega) hltj (by rw [ea, pSumR_s, if_pos c_16]) ls (lv_sub hl [0, 1, 2, 3] rfl)
  exact lp4_1 (nr + 1) 0 0 (Nat.le_refl _) (Nat.zero_le _) rfl ls (lv_sub hl [0, 1, 2, 3] rfl)
set_option maxHeartbeats 4000000 in
set_option maxRecDepth 100000 in
theorem c_X6_countOf (l : Launch) (D : va_G) (cy : Nat → ClassId) (ad : Nat → Nat) (ns nt nr : Nat) (hL : LB ns nt nr) (M : Nat → Nat → Int32) (V : SX) (w : Int32) : Met l yX6_countOf [.code yX6_countOf cX6_countOf 2 (some .int)] ({ frames := 3, cells := 0, slots := 0, locals := 66 } : Room) (PC D cy [.ref (ad 0), .int w] (fun H => CW D cy ad ns nt nr M V H)) (RQi (pCount M ns nt nr w)) 0 0 (fun _ => False) := by
  refine k_body (by decide +kernel) (Nat.le_of_ble_eq_true rfl) ?_
  intro p e s m below meth c ls hx hb hml hown hr hlk hmn hl hG hI
  have hml9 : c.maxLocals = 2 := hml.trans hl.1
  have hl : lv_has ls 2 [(0, .ref (ad 0)), (1, .int w)] := hl
  refine lv_iload_n hx hb dX6_countOf_0 rfl (lv_at hl 1 rfl) ?_
  by_cases w_0 : w = 0
  · refine lv_tableIn (off := 43) (tgt := 44) hx hb dX6_countOf_1 (by rw [w_0]; decide) (by rw [w_0]; decide) (by rw [w_0]; rfl) (by decide) ?_
    refine lv_aload_n hx hb dX6_countOf_44 rfl (lv_at hl 0 rfl) ?_
    refine k_get (ci := 6) (C := RX6) (T := TX6) (N := 8) (v := .int (M 0 0)) hx hb hown hG rfl kin_X6 hI.o 7 (by decide) wF_X6_114 rfl dX6_countOf_45 ?_
    exact ke_i hx hb hr hlk dX6_countOf_48 (by first | rfl | (try delta pCount; simp only [if_pos w_0, bI_true, bI_false]))
  by_cases w_1 : w = 1
  · refine lv_tableIn (off := 48) (tgt := 49) hx hb dX6_countOf_1 (by rw [w_1]; decide) (by rw [w_1]; decide) (by rw [w_1]; rfl) (by decide) ?_
    refine lv_aload_n hx hb dX6_countOf_49 rfl (lv_at hl 0 rfl) ?_
    refine k_get (ci := 6) (C := RX6) (T := TX6) (N := 8) (v := .int (nI ns)) hx hb hown hG rfl kin_X6 hI.o 4 (by decide) wF_X6_47 rfl dX6_countOf_50 ?_
    exact ke_i hx hb hr hlk dX6_countOf_53 (by first | rfl | (try delta pCount; simp only [if_neg w_0, if_pos w_1, bI_true, bI_false]))
  by_cases w_2 : w = 2
  · refine lv_tableIn (off := 53) (tgt := 54) hx hb dX6_countOf_1 (by rw [w_2]; decide) (by rw [w_2]; decide) (by rw [w_2]; rfl) (by decide) ?_
    refine lv_aload_n hx hb dX6_countOf_54 rfl (lv_at hl 0 rfl) ?_
    refine k_get (ci := 6) (C := RX6) (T := TX6) (N := 8) (v := .int (nI nt)) hx hb hown hG rfl kin_X6 hI.o 5 (by decide) wF_X6_95 rfl dX6_countOf_55 ?_
    exact ke_i hx hb hr hlk dX6_countOf_58 (by first | rfl | (try delta pCount; simp only [if_neg w_0, if_neg w_1, if_pos w_2, bI_true, bI_false]))
  by_cases w_3 : w = 3
  · refine lv_tableIn (off := 58) (tgt := 59) hx hb dX6_countOf_1 (by rw [w_3]; decide) (by rw [w_3]; decide) (by rw [w_3]; rfl) (by decide) ?_
    refine lv_aload_n hx hb dX6_countOf_59 rfl (lv_at hl 0 rfl) ?_
    refine k_get (ci := 6) (C := RX6) (T := TX6) (N := 8) (v := .int (nI nr)) hx hb hown hG rfl kin_X6 hI.o 6 (by decide) wF_X6_132 rfl dX6_countOf_60 ?_
    exact ke_i hx hb hr hlk dX6_countOf_63 (by first | rfl | (try delta pCount; simp only [if_neg w_0, if_neg w_1, if_neg w_2, if_pos w_3, bI_true, bI_false]))
  by_cases w_4 : w = 4
  · refine lv_tableIn (off := 63) (tgt := 64) hx hb dX6_countOf_1 (by rw [w_4]; decide) (by rw [w_4]; decide) (by rw [w_4]; rfl) (by decide) ?_
    refine lv_aload_n hx hb dX6_countOf_64 rfl (lv_at hl 0 rfl) ?_
    refine lv_iload_n hx hb dX6_countOf_65 rfl (lv_at hl 1 rfl) ?_
    refine kc_i (kr_V (As := [.int w]) (rest := []) hx hb hml hown hG (c_X6_sumOfStars l D cy ad ns nt nr hL M V w) cf_X6_sumOfStars wM_X6_399 hI.o rfl hI ⟨rfl, rfl, by decide, by decide⟩ rfl rfl (Nat.le_of_ble_eq_true rfl) ⟨Nat.le_of_ble_eq_true rfl, Nat.le_of_ble_eq_true rfl⟩ dX6_countOf_66) ?_
    exact ke_i hx hb hr hlk dX6_countOf_69 (by first | rfl | (try delta pCount; simp only [if_neg w_0, if_neg w_1, if_neg w_2, if_neg w_3, if_pos w_4, bI_true, bI_false]))
  by_cases w_5 : w = 5
  · refine lv_tableIn (off := 63) (tgt := 64) hx hb dX6_countOf_1 (by rw [w_5]; decide) (by rw [w_5]; decide) (by rw [w_5]; rfl) (by decide) ?_
    refine lv_aload_n hx hb dX6_countOf_64 rfl (lv_at hl 0 rfl) ?_
    refine lv_iload_n hx hb dX6_countOf_65 rfl (lv_at hl 1 rfl) ?_
    refine kc_i (kr_V (As := [.int w]) (rest := []) hx hb hml hown hG (c_X6_sumOfStars l D cy ad ns nt nr hL M V w) cf_X6_sumOfStars wM_X6_399 hI.o rfl hI ⟨rfl, rfl, by decide, by decide⟩ rfl rfl (Nat.le_of_ble_eq_true rfl) ⟨Nat.le_of_ble_eq_true rfl, Nat.le_of_ble_eq_true rfl⟩ dX6_countOf_66) ?_
    exact ke_i hx hb hr hlk dX6_countOf_69 (by first | rfl | (try delta pCount; simp only [if_neg w_0, if_neg w_1, if_neg w_2, if_neg w_3, if_neg w_4, if_pos w_5, bI_true, bI_false]))
  by_cases w_6 : w = 6
  · refine lv_tableIn (off := 63) (tgt := 64) hx hb dX6_countOf_1 (by rw [w_6]; decide) (by rw [w_6]; decide) (by rw [w_6]; rfl) (by decide) ?_
    refine lv_aload_n hx hb dX6_countOf_64 rfl (lv_at hl 0 rfl) ?_
    refine lv_iload_n hx hb dX6_countOf_65 rfl (lv_at hl 1 rfl) ?_
    refine kc_i (kr_V (As := [.int w]) (rest := []) hx hb hml hown hG (c_X6_sumOfStars l D cy ad ns nt nr hL M V w) cf_X6_sumOfStars wM_X6_399 hI.o rfl hI ⟨rfl, rfl, by decide, by decide⟩ rfl rfl (Nat.le_of_ble_eq_true rfl) ⟨Nat.le_of_ble_eq_true rfl, Nat.le_of_ble_eq_true rfl⟩ dX6_countOf_66) ?_
    exact ke_i hx hb hr hlk dX6_countOf_69 (by first | rfl | (try delta pCount; simp only [if_neg w_0, if_neg w_1, if_neg w_2, if_neg w_3, if_neg w_4, if_neg w_5, if_pos w_6, bI_true, bI_false]))
  have t_0 : ¬ w.toInt = 0 := lv_neT w_0 (by decide)
  have t_1 : ¬ w.toInt = 1 := lv_neT w_1 (by decide)
  have t_2 : ¬ w.toInt = 2 := lv_neT w_2 (by decide)
  have t_3 : ¬ w.toInt = 3 := lv_neT w_3 (by decide)
  have t_4 : ¬ w.toInt = 4 := lv_neT w_4 (by decide)
  have t_5 : ¬ w.toInt = 5 := lv_neT w_5 (by decide)
  have t_6 : ¬ w.toInt = 6 := lv_neT w_6 (by decide)
  refine lv_tableOut (tgt := 70) hx hb dX6_countOf_1 (by omega) (by decide) ?_
  refine lv_aload_n hx hb dX6_countOf_70 rfl (lv_at hl 0 rfl) ?_
  refine lv_iload_n hx hb dX6_countOf_71 rfl (lv_at hl 1 rfl) ?_
  refine kc_i (kr_V (As := [.int w]) (rest := []) hx hb hml hown hG (c_X6_sumOfReceivers l D cy ad ns nt nr hL M V w) cf_X6_sumOfReceivers wM_X6_402 hI.o rfl hI ⟨rfl, rfl, by decide, by decide⟩ rfl rfl (Nat.le_of_ble_eq_true rfl) ⟨Nat.le_of_ble_eq_true rfl, Nat.le_of_ble_eq_true rfl⟩ dX6_countOf_72) ?_
  exact ke_i hx hb hr hlk dX6_countOf_75 (by first | rfl | (try delta pCount; simp only [if_neg w_0, if_neg w_1, if_neg w_2, if_neg w_3, if_neg w_4, if_neg w_5, if_neg w_6, bI_true, bI_false]))
set_option maxHeartbeats 4000000 in
set_option maxRecDepth 100000 in
theorem c_X6_digestStar (l : Launch) (D : va_G) (cy : Nat → ClassId) (ad : Nat → Nat) (ns nt nr : Nat) (hL : LB ns nt nr) (M : Nat → Nat → Int32) (V : SX) (d : Int64) (j : Nat) (hj : j < ns) : Met l yX6_digestStar [.code yX6_digestStar cX6_digestStar 7 (some .long)] ({ frames := 4, cells := 0, slots := 0, locals := 87 } : Room) (PC D cy [.ref (ad 0), .long d, .ref (ad (10 + j))] (fun H => CW D cy ad ns nt nr M V H)) (RQl (pDSt M nt j d)) 0 0 (fun _ => False) := by
  refine k_body (by decide +kernel) (Nat.le_of_ble_eq_true rfl) ?_
  intro p e s m below meth c ls hx hb hml hown hr hlk hmn hl hG hI
  have hml9 : c.maxLocals = 7 := hml.trans hl.1
  have hl : lv_has ls 7 [(0, .ref (ad 0)), (1, .long d), (3, .ref (ad (10 + j)))] := hl
  refine lv_lload_n hx hb dX6_digestStar_0 rfl (lv_at hl 1 rfl) ?_
  refine lv_lstore (lv' := [(4, .long d), (0, .ref (ad 0)), (1, .long d), (3, .ref (ad (10 + j)))]) hx hb dX6_digestStar_1 hl (by decide) rfl (fun ls hl => ?_)
  have hml : c.maxLocals = ls.size := hml9.trans hl.1.symm
  refine lv_iconst (v := 0) hx hb dX6_digestStar_3 (by decide) ?_
  refine lv_istore (lv' := [(6, .int 0), (4, .long d), (0, .ref (ad 0)), (1, .long d), (3, .ref (ad (10 + j)))]) hx hb dX6_digestStar_4 hl (by decide) rfl (fun ls hl => ?_)
  have hml : c.maxLocals = ls.size := hml9.trans hl.1.symm
  have lp6_1 : ∀ (n9 : Nat) (k1 : Nat) (d1 : Int64), 9 - k1 ≤ n9 → k1 ≤ 8 → d1 = pFold (fun k => pTell (M (10 + j)) (nI k)) k1 d →  ∀ ls : Array Slot, lv_has ls 7 [(6, .int (nI k1)), (4, .long d1), (0, .ref (ad 0)), (1, .long d), (3, .ref (ad (10 + j)))] → W p l e ({ frames := 4, cells := 0, slots := 0, locals := 87 } : Room) s m ([.ref (ad 0), .long d, .ref (ad (10 + j))] : List Value).toArray below meth c s.heap [] 0 0 (MQ below (RQl (pDSt M nt j d)) ([.ref (ad 0), .long d, .ref (ad (10 + j))] : List Value).toArray s 0 0 (fun _ => False)) (F0 m 6 ls []) := by
    intro n9
    induction n9 with
    | zero =>
      intro k1 d1 h9
      intro h; exact absurd h9 (by omega)
    | succ n9 ih9 =>
      intro k1 d1 hn9 hk1 ed1 ls hl
      have hml : c.maxLocals = ls.size := hml9.trans hl.1.symm
      refine lv_iload hx hb dX6_digestStar_6 (lv_at hl 0 rfl) ?_
      refine lv_bipush (v := 7) hx hb dX6_digestStar_8 (by decide) ?_
      refine lv_icmp_gt (tgt := 35) hx hb dX6_digestStar_10 (by decide) (fun c_10 => ?_) (fun c_10 => ?_)
      · have ek1 : k1 = 8 := (g7 k1 hk1).mp c_10
        rw [ek1] at ed1
        refine lv_iconst (v := 0) hx hb dX6_digestStar_35 (by decide) ?_
        refine lv_istore (lv' := [(6, .int 0), (4, .long d1), (0, .ref (ad 0)), (1, .long d), (3, .ref (ad (10 + j)))]) hx hb dX6_digestStar_36 hl (by decide) rfl (fun ls hl => ?_)
        have hml : c.maxLocals = ls.size := hml9.trans hl.1.symm
        have lp38_2 : ∀ (n9 : Nat) (k2 : Nat) (d2 : Int64), 9 - k2 ≤ n9 → k2 ≤ 8 → d2 = pFold (fun k => pTellM (M (10 + j)) (nI k) (M 0 0)) k2 (pFold (fun k => pTell (M (10 + j)) (nI k)) 8 d) →  ∀ ls : Array Slot, lv_has ls 7 [(6, .int (nI k2)), (4, .long d2), (0, .ref (ad 0)), (1, .long d), (3, .ref (ad (10 + j)))] → W p l e ({ frames := 4, cells := 0, slots := 0, locals := 87 } : Room) s m ([.ref (ad 0), .long d, .ref (ad (10 + j))] : List Value).toArray below meth c s.heap [] 0 0 (MQ below (RQl (pDSt M nt j d)) ([.ref (ad 0), .long d, .ref (ad (10 + j))] : List Value).toArray s 0 0 (fun _ => False)) (F0 m 38 ls []) := by
          intro n9
          induction n9 with
          | zero =>
            intro k2 d2 h9
            intro h; exact absurd h9 (by omega)
          | succ n9 ih9 =>
            intro k2 d2 hn9 hk2 ed2 ls hl
            have hml : c.maxLocals = ls.size := hml9.trans hl.1.symm
            refine lv_iload hx hb dX6_digestStar_38 (lv_at hl 0 rfl) ?_
            refine lv_bipush (v := 7) hx hb dX6_digestStar_40 (by decide) ?_
            refine lv_icmp_gt (tgt := 71) hx hb dX6_digestStar_42 (by decide) (fun c_42 => ?_) (fun c_42 => ?_)
            · have ek2 : k2 = 8 := (g7 k2 hk2).mp c_42
              rw [ek2] at ed2
              refine lv_iconst (v := 0) hx hb dX6_digestStar_71 (by decide) ?_
              refine lv_istore (lv' := [(6, .int 0), (4, .long d2), (0, .ref (ad 0)), (1, .long d), (3, .ref (ad (10 + j)))]) hx hb dX6_digestStar_72 hl (by decide) rfl (fun ls hl => ?_)
              have hml : c.maxLocals = ls.size := hml9.trans hl.1.symm
              have lp74_3 : ∀ (n9 : Nat) (i : Nat) (d3 : Int64), nt + 1 - i ≤ n9 → i ≤ nt → d3 = pFold (fun i => pFs (M (20 + i)) (M (10 + j)) 49 0) i (pFold (fun k => pTellM (M (10 + j)) (nI k) (M 0 0)) 8 (pFold (fun k => pTell (M (10 + j)) (nI k)) 8 d)) →  ∀ ls : Array Slot, lv_has ls 7 [(6, .int (nI i)), (4, .long d3), (0, .ref (ad 0)), (1, .long d), (3, .ref (ad (10 + j)))] → W p l e ({ frames := 4, cells := 0, slots := 0, locals := 87 } : Room) s m ([.ref (ad 0), .long d, .ref (ad (10 + j))] : List Value).toArray below meth c s.heap [] 0 0 (MQ below (RQl (pDSt M nt j d)) ([.ref (ad 0), .long d, .ref (ad (10 + j))] : List Value).toArray s 0 0 (fun _ => False)) (F0 m 74 ls []) := by
                intro n9
                induction n9 with
                | zero =>
                  intro i d3 h9
                  intro h; exact absurd h9 (by omega)
                | succ n9 ih9 =>
                  intro i d3 hn9 hi ed3 ls hl
                  have hml : c.maxLocals = ls.size := hml9.trans hl.1.symm
                  refine lv_iload hx hb dX6_digestStar_74 (lv_at hl 0 rfl) ?_
                  refine lv_aload_n hx hb dX6_digestStar_76 rfl (lv_at hl 2 rfl) ?_
                  refine k_get (ci := 6) (C := RX6) (T := TX6) (N := 8) (v := .int (nI nt)) hx hb hown hG rfl kin_X6 hI.o 5 (by decide) wF_X6_95 rfl dX6_digestStar_77 ?_
                  refine lv_icmp_ge (tgt := 110) hx hb dX6_digestStar_80 (by decide) (fun c_80 => ?_) (fun c_80 => ?_)
                  · have eni : i = nt := Nat.le_antisymm hi ((nI_leI (by have := hL.1; have := hL.2.1; have := hL.2.2; omega) (by have := hL.1; have := hL.2.1; have := hL.2.2; omega)).mp c_80)
                    refine lv_lload hx hb dX6_digestStar_110 (lv_at hl 1 rfl) ?_
                    exact ke_l hx hb hr hlk dX6_digestStar_112 (by unfold pDSt; rw [ed3, eni])
                  · have hlti : i < nt := by
                      rcases Nat.lt_or_ge i nt with q | q
                      · exact q
                      · exact absurd (nI_le q (by have := hL.1; have := hL.2.1; have := hL.2.2; omega)) c_80
                    refine lv_lload hx hb dX6_digestStar_83 (lv_at hl 1 rfl) ?_
                    refine lv_ldc2 hx hb hown (hG.w wK_X6_286 rfl) dX6_digestStar_85 ?_
                    refine lv_lmul hx hb dX6_digestStar_88 ?_
                    refine lv_aload_n hx hb dX6_digestStar_89 rfl (lv_at hl 4 rfl) ?_
                    refine lv_aload_n hx hb dX6_digestStar_90 rfl (lv_at hl 2 rfl) ?_
                    refine k_get (ci := 6) (C := RX6) (T := TX6) (N := 8) (v := .ref (ad 8)) hx hb hown hG rfl kin_X6 hI.o 1 (by decide) wF_X6_17 rfl dX6_digestStar_91 ?_
                    refine lv_iload hx hb dX6_digestStar_94 (lv_at hl 0 rfl) ?_
                    refine k_aldq (v := (ad (20 + i))) hx hb hG 2 rfl hI.a8 (by exact vp_in_nI (Nat.lt_of_lt_of_le hlti hL.2.1) (by decide)) (by exact aSn hlti hL) dX6_digestStar_96 ?_
                    refine kc_i (kr_S (As := [.ref (ad (10 + j)), .ref (ad (20 + i))]) (rest := [.long (d3 * 31)]) hx hb hml hown hG (c_X6_firstHeard l D cy (ad (10 + j)) (ad (20 + i)) (M (20 + i)) (M (10 + j))) cf_X6_firstHeard wM_X6_266 ⟨(hI.st hL hj), (hI.sn hL hlti)⟩ ⟨rfl, rfl, by decide, by decide⟩ rfl rfl (Nat.le_of_ble_eq_true rfl) ⟨Nat.le_of_ble_eq_true rfl, Nat.le_of_ble_eq_true rfl⟩ dX6_digestStar_97) ?_
                    refine lv_i2l (v := (pFs (M (20 + i)) (M (10 + j)) 49 0).toInt64) hx hb dX6_digestStar_100 rfl ?_
                    refine lv_ladd hx hb dX6_digestStar_101 ?_
                    refine lv_lstore (lv' := [(4, .long ((d3 * 31) + (pFs (M (20 + i)) (M (10 + j)) 49 0).toInt64)), (6, .int (nI i)), (0, .ref (ad 0)), (1, .long d), (3, .ref (ad (10 + j)))]) hx hb dX6_digestStar_102 hl (by decide) rfl (fun ls hl => ?_)
                    have hml : c.maxLocals = ls.size := hml9.trans hl.1.symm
                    refine lv_iinc (v := (nI (i + 1))) (lv' := [(6, .int (nI (i + 1))), (4, .long ((d3 * 31) + (pFs (M (20 + i)) (M (10 + j)) 49 0).toInt64)), (0, .ref (ad 0)), (1, .long d), (3, .ref (ad (10 + j)))]) hx hb dX6_digestStar_104 hl (k := 1) rfl ((nI_succ i).symm) (by decide) rfl (fun ls hl => ?_)
                    have hml : c.maxLocals = ls.size := hml9.trans hl.1.symm
                    refine lv_goto (tgt := 74) hx hb dX6_digestStar_107 (by decide) ?_
                    exact ih9 (i + 1) ((d3 * 31) + (pFs (M (20 + i)) (M (10 + j)) 49 0).toInt64) (by omega) hlti (by rw [ed3, pFold_s _ i _]) ls (lv_sub hl [0, 1, 2, 3, 4] rfl)
              exact lp74_3 (nt + 1) 0 d2 (Nat.le_refl _) (Nat.zero_le _) (by rw [pFold_0, ed2]) ls (lv_sub hl [0, 1, 2, 3, 4] rfl)
            · have hkk2 : k2 < 8 := by
                have := mt (g7 k2 hk2).mpr c_42
                omega
              refine lv_lload hx hb dX6_digestStar_45 (lv_at hl 1 rfl) ?_
              refine lv_ldc2 hx hb hown (hG.w wK_X6_286 rfl) dX6_digestStar_47 ?_
              refine lv_lmul hx hb dX6_digestStar_50 ?_
              refine lv_aload_n hx hb dX6_digestStar_51 rfl (lv_at hl 4 rfl) ?_
              refine lv_iload hx hb dX6_digestStar_52 (lv_at hl 0 rfl) ?_
              refine lv_aload_n hx hb dX6_digestStar_54 rfl (lv_at hl 2 rfl) ?_
              refine k_get (ci := 6) (C := RX6) (T := TX6) (N := 8) (v := .int (M 0 0)) hx hb hown hG rfl kin_X6 hI.o 7 (by decide) wF_X6_114 rfl dX6_digestStar_55 ?_
              refine kc_i (kr_VN (As := [.int (nI k2), .int (M 0 0)]) (rest := [.long (d2 * 31)]) hx hb hml hown hG (c_X3_tellMessage l D cy (ad (10 + j)) (M (10 + j)) (nI k2) (M 0 0)) cf_X3_tellMessage wMN_X6_242 (hI.st hL hj) rfl (hI.st hL hj) ⟨rfl, rfl, by decide, by decide⟩ rfl rfl (Nat.le_of_ble_eq_true rfl) ⟨Nat.le_of_ble_eq_true rfl, Nat.le_of_ble_eq_true rfl⟩ dX6_digestStar_58) ?_
              refine lv_i2l (v := (pTellM (M (10 + j)) (nI k2) (M 0 0)).toInt64) hx hb dX6_digestStar_61 rfl ?_
              refine lv_ladd hx hb dX6_digestStar_62 ?_
              refine lv_lstore (lv' := [(4, .long ((d2 * 31) + (pTellM (M (10 + j)) (nI k2) (M 0 0)).toInt64)), (6, .int (nI k2)), (0, .ref (ad 0)), (1, .long d), (3, .ref (ad (10 + j)))]) hx hb dX6_digestStar_63 hl (by decide) rfl (fun ls hl => ?_)
              have hml : c.maxLocals = ls.size := hml9.trans hl.1.symm
              refine lv_iinc (v := (nI (k2 + 1))) (lv' := [(6, .int (nI (k2 + 1))), (4, .long ((d2 * 31) + (pTellM (M (10 + j)) (nI k2) (M 0 0)).toInt64)), (0, .ref (ad 0)), (1, .long d), (3, .ref (ad (10 + j)))]) hx hb dX6_digestStar_65 hl (k := 1) rfl ((nI_succ k2).symm) (by decide) rfl (fun ls hl => ?_)
              have hml : c.maxLocals = ls.size := hml9.trans hl.1.symm
              refine lv_goto (tgt := 38) hx hb dX6_digestStar_68 (by decide) ?_
              exact ih9 (k2 + 1) ((d2 * 31) + (pTellM (M (10 + j)) (nI k2) (M 0 0)).toInt64) (by omega) (by omega) (by rw [ed2, pFold_s _ k2 _]) ls (lv_sub hl [0, 1, 2, 3, 4] rfl)
        exact lp38_2 9 0 d1 (Nat.le_refl _) (Nat.zero_le _) (by rw [pFold_0, ed1]) ls (lv_sub hl [0, 1, 2, 3, 4] rfl)
      · have hkk1 : k1 < 8 := by
          have := mt (g7 k1 hk1).mpr c_10
          omega
        refine lv_lload hx hb dX6_digestStar_13 (lv_at hl 1 rfl) ?_
        refine lv_ldc2 hx hb hown (hG.w wK_X6_286 rfl) dX6_digestStar_15 ?_
        refine lv_lmul hx hb dX6_digestStar_18 ?_
        refine lv_aload_n hx hb dX6_digestStar_19 rfl (lv_at hl 4 rfl) ?_
        refine lv_iload hx hb dX6_digestStar_20 (lv_at hl 0 rfl) ?_
        refine kc_i (kr_VN (As := [.int (nI k1)]) (rest := [.long (d1 * 31)]) hx hb hml hown hG (c_X3_tell l D cy (ad (10 + j)) (M (10 + j)) (nI k1)) cf_X3_tell wMN_X6_239 (hI.st hL hj) rfl (hI.st hL hj) ⟨rfl, rfl, by decide, by decide⟩ rfl rfl (Nat.le_of_ble_eq_true rfl) ⟨Nat.le_of_ble_eq_true rfl, Nat.le_of_ble_eq_true rfl⟩ dX6_digestStar_22) ?_
        refine lv_i2l (v := (pTell (M (10 + j)) (nI k1)).toInt64) hx hb dX6_digestStar_25 rfl ?_
        refine lv_ladd hx hb dX6_digestStar_26 ?_
        refine lv_lstore (lv' := [(4, .long ((d1 * 31) + (pTell (M (10 + j)) (nI k1)).toInt64)), (6, .int (nI k1)), (0, .ref (ad 0)), (1, .long d), (3, .ref (ad (10 + j)))]) hx hb dX6_digestStar_27 hl (by decide) rfl (fun ls hl => ?_)
        have hml : c.maxLocals = ls.size := hml9.trans hl.1.symm
        refine lv_iinc (v := (nI (k1 + 1))) (lv' := [(6, .int (nI (k1 + 1))), (4, .long ((d1 * 31) + (pTell (M (10 + j)) (nI k1)).toInt64)), (0, .ref (ad 0)), (1, .long d), (3, .ref (ad (10 + j)))]) hx hb dX6_digestStar_29 hl (k := 1) rfl ((nI_succ k1).symm) (by decide) rfl (fun ls hl => ?_)
        have hml : c.maxLocals = ls.size := hml9.trans hl.1.symm
        refine lv_goto (tgt := 6) hx hb dX6_digestStar_32 (by decide) ?_
        exact ih9 (k1 + 1) ((d1 * 31) + (pTell (M (10 + j)) (nI k1)).toInt64) (by omega) (by omega) (by rw [ed1, pFold_s _ k1 _]) ls (lv_sub hl [0, 1, 2, 3, 4] rfl)
  exact lp6_1 9 0 d (Nat.le_refl _) (Nat.zero_le _) (by rw [pFold_0]) ls (lv_sub hl [0, 1, 2, 3, 4] rfl)
set_option maxHeartbeats 4000000 in
set_option maxRecDepth 100000 in
theorem c_X6_digestReceiver (l : Launch) (D : va_G) (cy : Nat → ClassId) (ad : Nat → Nat) (ns nt nr : Nat) (hL : LB ns nt nr) (M : Nat → Nat → Int32) (V : SX) (d : Int64) (i : Nat) (hi : i < nr) : Met l yX6_digestReceiver [.code yX6_digestReceiver cX6_digestReceiver 8 (some .long)] ({ frames := 5, cells := 0, slots := 0, locals := 111 } : Room) (PC D cy [.ref (ad 0), .long d, .ref (ad (30 + i))] (fun H => CW D cy ad ns nt nr M V H)) (RQl (pDRc M ns i d)) 0 0 (fun _ => False) := by
  refine k_body (by decide +kernel) (Nat.le_of_ble_eq_true rfl) ?_
  intro p e s m below meth c ls hx hb hml hown hr hlk hmn hl hG hI
  have hml9 : c.maxLocals = 8 := hml.trans hl.1
  have hl : lv_has ls 8 [(0, .ref (ad 0)), (1, .long d), (3, .ref (ad (30 + i)))] := hl
  refine lv_lload_n hx hb dX6_digestReceiver_0 rfl (lv_at hl 1 rfl) ?_
  refine lv_lstore (lv' := [(4, .long d), (0, .ref (ad 0)), (1, .long d), (3, .ref (ad (30 + i)))]) hx hb dX6_digestReceiver_1 hl (by decide) rfl (fun ls hl => ?_)
  have hml : c.maxLocals = ls.size := hml9.trans hl.1.symm
  refine lv_iconst (v := 0) hx hb dX6_digestReceiver_3 (by decide) ?_
  refine lv_istore (lv' := [(6, .int 0), (4, .long d), (0, .ref (ad 0)), (1, .long d), (3, .ref (ad (30 + i)))]) hx hb dX6_digestReceiver_4 hl (by decide) rfl (fun ls hl => ?_)
  have hml : c.maxLocals = ls.size := hml9.trans hl.1.symm
  have lp6_1 : ∀ (n9 : Nat) (k1 : Nat) (d1 : Int64), 15 - k1 ≤ n9 → k1 ≤ 14 → d1 = pFold (fun k => pTellR M ns i (nI k)) k1 d →  ∀ ls : Array Slot, lv_has ls 8 [(6, .int (nI k1)), (4, .long d1), (0, .ref (ad 0)), (1, .long d), (3, .ref (ad (30 + i)))] → W p l e ({ frames := 5, cells := 0, slots := 0, locals := 111 } : Room) s m ([.ref (ad 0), .long d, .ref (ad (30 + i))] : List Value).toArray below meth c s.heap [] 0 0 (MQ below (RQl (pDRc M ns i d)) ([.ref (ad 0), .long d, .ref (ad (30 + i))] : List Value).toArray s 0 0 (fun _ => False)) (F0 m 6 ls []) := by
    intro n9
    induction n9 with
    | zero =>
      intro k1 d1 h9
      intro h; exact absurd h9 (by omega)
    | succ n9 ih9 =>
      intro k1 d1 hn9 hk1 ed1 ls hl
      have hml : c.maxLocals = ls.size := hml9.trans hl.1.symm
      refine lv_iload hx hb dX6_digestReceiver_6 (lv_at hl 0 rfl) ?_
      refine lv_bipush (v := 13) hx hb dX6_digestReceiver_8 (by decide) ?_
      refine lv_icmp_gt (tgt := 36) hx hb dX6_digestReceiver_10 (by decide) (fun c_10 => ?_) (fun c_10 => ?_)
      · have ek1 : k1 = 14 := (g13 k1 hk1).mp c_10
        rw [ek1] at ed1
        refine lv_iconst (v := 0) hx hb dX6_digestReceiver_36 (by decide) ?_
        refine lv_istore (lv' := [(6, .int 0), (4, .long d1), (0, .ref (ad 0)), (1, .long d), (3, .ref (ad (30 + i)))]) hx hb dX6_digestReceiver_37 hl (by decide) rfl (fun ls hl => ?_)
        have hml : c.maxLocals = ls.size := hml9.trans hl.1.symm
        have lp39_2 : ∀ (n9 : Nat) (j : Nat) (d2 : Int64), ns + 1 - j ≤ n9 → j ≤ ns → d2 = pDSg M i j (pFold (fun k => pTellR M ns i (nI k)) 14 d) →  ∀ ls : Array Slot, lv_has ls 8 [(6, .int (nI j)), (4, .long d2), (0, .ref (ad 0)), (1, .long d), (3, .ref (ad (30 + i)))] → W p l e ({ frames := 5, cells := 0, slots := 0, locals := 111 } : Room) s m ([.ref (ad 0), .long d, .ref (ad (30 + i))] : List Value).toArray below meth c s.heap [] 0 0 (MQ below (RQl (pDRc M ns i d)) ([.ref (ad 0), .long d, .ref (ad (30 + i))] : List Value).toArray s 0 0 (fun _ => False)) (F0 m 39 ls []) := by
          intro n9
          induction n9 with
          | zero =>
            intro j d2 h9
            intro h; exact absurd h9 (by omega)
          | succ n9 ih9 =>
            intro j d2 hn9 hj ed2 ls hl
            have hml : c.maxLocals = ls.size := hml9.trans hl.1.symm
            have ihj9 := ih9
            refine lv_iload hx hb dX6_digestReceiver_39 (lv_at hl 0 rfl) ?_
            refine lv_aload_n hx hb dX6_digestReceiver_41 rfl (lv_at hl 2 rfl) ?_
            refine k_get (ci := 6) (C := RX6) (T := TX6) (N := 8) (v := .int (nI ns)) hx hb hown hG rfl kin_X6 hI.o 4 (by decide) wF_X6_47 rfl dX6_digestReceiver_42 ?_
            refine lv_icmp_ge (tgt := 92) hx hb dX6_digestReceiver_45 (by decide) (fun c_45 => ?_) (fun c_45 => ?_)
            · have enj : j = ns := Nat.le_antisymm hj ((nI_leI (by have := hL.1; have := hL.2.1; have := hL.2.2; omega) (by have := hL.1; have := hL.2.1; have := hL.2.2; omega)).mp c_45)
              refine lv_lload hx hb dX6_digestReceiver_92 (lv_at hl 1 rfl) ?_
              refine lv_ldc2 hx hb hown (hG.w wK_X6_286 rfl) dX6_digestReceiver_94 ?_
              refine lv_lmul hx hb dX6_digestReceiver_97 ?_
              refine lv_aload_n hx hb dX6_digestReceiver_98 rfl (lv_at hl 2 rfl) ?_
              refine lv_aload_n hx hb dX6_digestReceiver_99 rfl (lv_at hl 4 rfl) ?_
              refine lv_bipush (v := 6) hx hb dX6_digestReceiver_100 (by decide) ?_
              refine kc_i (kr_V (As := [.ref (ad (30 + i)), .int 6]) (rest := [.long (d2 * 31)]) hx hb hml hown hG (c_X6_setSeen l D cy ad ns nt nr hL M V i hi 6) cf_X6_setSeen wM_X6_165 hI.o rfl hI ⟨rfl, rfl, by decide, by decide⟩ rfl rfl (Nat.le_of_ble_eq_true rfl) ⟨Nat.le_of_ble_eq_true rfl, Nat.le_of_ble_eq_true rfl⟩ dX6_digestReceiver_102) ?_
              refine lv_i2l (v := (pSet (M (30 + i)) M 6 ns).toInt64) hx hb dX6_digestReceiver_105 rfl ?_
              refine lv_ladd hx hb dX6_digestReceiver_106 ?_
              exact ke_l hx hb hr hlk dX6_digestReceiver_107 (by unfold pDRc; rw [ed2, enj])
            · have hltj : j < ns := by
                rcases Nat.lt_or_ge j ns with q | q
                · exact q
                · exact absurd (nI_le q (by have := hL.1; have := hL.2.1; have := hL.2.2; omega)) c_45
              refine lv_iconst (v := 0) hx hb dX6_digestReceiver_48 (by decide) ?_
              refine lv_istore (lv' := [(7, .int 0), (6, .int (nI j)), (4, .long d2), (0, .ref (ad 0)), (1, .long d), (3, .ref (ad (30 + i)))]) hx hb dX6_digestReceiver_49 hl (by decide) rfl (fun ls hl => ?_)
              have hml : c.maxLocals = ls.size := hml9.trans hl.1.symm
              have lp51_3 : ∀ (n9 : Nat) (k2 : Nat) (d3 : Int64), 9 - k2 ≤ n9 → k2 ≤ 8 → d3 = pFold (fun k => pTellG (M (60 + 8 * i + j)) (nI k)) k2 (pDSg M i j (pFold (fun k => pTellR M ns i (nI k)) 14 d)) →  ∀ ls : Array Slot, lv_has ls 8 [(7, .int (nI k2)), (6, .int (nI j)), (4, .long d3), (0, .ref (ad 0)), (1, .long d), (3, .ref (ad (30 + i)))] → W p l e ({ frames := 5, cells := 0, slots := 0, locals := 111 } : Room) s m ([.ref (ad 0), .long d, .ref (ad (30 + i))] : List Value).toArray below meth c s.heap [] 0 0 (MQ below (RQl (pDRc M ns i d)) ([.ref (ad 0), .long d, .ref (ad (30 + i))] : List Value).toArray s 0 0 (fun _ => False)) (F0 m 51 ls []) := by
                intro n9
                induction n9 with
                | zero =>
                  intro k2 d3 h9
                  intro h; exact absurd h9 (by omega)
                | succ n9 ih9 =>
                  intro k2 d3 hn9 hk2 ed3 ls hl
                  have hml : c.maxLocals = ls.size := hml9.trans hl.1.symm
                  refine lv_iload hx hb dX6_digestReceiver_51 (lv_at hl 0 rfl) ?_
                  refine lv_bipush (v := 7) hx hb dX6_digestReceiver_53 (by decide) ?_
                  refine lv_icmp_gt (tgt := 86) hx hb dX6_digestReceiver_55 (by decide) (fun c_55 => ?_) (fun c_55 => ?_)
                  · have ek2 : k2 = 8 := (g7 k2 hk2).mp c_55
                    rw [ek2] at ed3
                    refine lv_iinc (v := (nI (j + 1))) (lv' := [(6, .int (nI (j + 1))), (7, .int (nI k2)), (4, .long d3), (0, .ref (ad 0)), (1, .long d), (3, .ref (ad (30 + i)))]) hx hb dX6_digestReceiver_86 hl (k := 1) rfl ((nI_succ j).symm) (by decide) rfl (fun ls hl => ?_)
                    have hml : c.maxLocals = ls.size := hml9.trans hl.1.symm
                    refine lv_goto (tgt := 39) hx hb dX6_digestReceiver_89 (by decide) ?_
                    exact ihj9 (j + 1) d3 (by omega) hltj (by rw [ed3, pDSg_s]) ls (lv_sub hl [0, 2, 3, 4, 5] rfl)
                  · have hkk2 : k2 < 8 := by
                      have := mt (g7 k2 hk2).mpr c_55
                      omega
                    refine lv_lload hx hb dX6_digestReceiver_58 (lv_at hl 2 rfl) ?_
                    refine lv_ldc2 hx hb hown (hG.w wK_X6_286 rfl) dX6_digestReceiver_60 ?_
                    refine lv_lmul hx hb dX6_digestReceiver_63 ?_
                    refine lv_aload_n hx hb dX6_digestReceiver_64 rfl (lv_at hl 5 rfl) ?_
                    refine k_getN (ci := 0) (C := RX0) (T := TX0) (N := 13) (v := .ref (ad (40 + i))) hx hb hown hG rfl kin_X0 (hI.rc hL hi) 2 (by decide) wFN_X6_247 rfl dX6_digestReceiver_65 ?_
                    refine lv_iload hx hb dX6_digestReceiver_68 (lv_at hl 1 rfl) ?_
                    refine k_aldq (v := (ad (60 + 8 * i + j))) hx hb hG 4 rfl (hI.ga hL hi) (by exact vp_in_nI (Nat.lt_of_lt_of_le hltj hL.1) (by decide)) (by exact aSg (i := i) (Nat.lt_of_lt_of_le hltj hL.1)) dX6_digestReceiver_70 ?_
                    refine lv_iload hx hb dX6_digestReceiver_71 (lv_at hl 0 rfl) ?_
                    refine kc_i (kr_VN (As := [.int (nI k2)]) (rest := [.long (d3 * 31)]) hx hb hml hown hG (c_X1_tell l D cy (ad (60 + 8 * i + j)) (M (60 + 8 * i + j)) (nI k2)) cf_X1_tell wMN_X6_251 (hI.sg hL hi (Nat.lt_of_lt_of_le hltj hL.1)) rfl (hI.sg hL hi (Nat.lt_of_lt_of_le hltj hL.1)) ⟨rfl, rfl, by decide, by decide⟩ rfl rfl (Nat.le_of_ble_eq_true rfl) ⟨Nat.le_of_ble_eq_true rfl, Nat.le_of_ble_eq_true rfl⟩ dX6_digestReceiver_73) ?_
                    refine lv_i2l (v := (pTellG (M (60 + 8 * i + j)) (nI k2)).toInt64) hx hb dX6_digestReceiver_76 rfl ?_
                    refine lv_ladd hx hb dX6_digestReceiver_77 ?_
                    refine lv_lstore (lv' := [(4, .long ((d3 * 31) + (pTellG (M (60 + 8 * i + j)) (nI k2)).toInt64)), (7, .int (nI k2)), (6, .int (nI j)), (0, .ref (ad 0)), (1, .long d), (3, .ref (ad (30 + i)))]) hx hb dX6_digestReceiver_78 hl (by decide) rfl (fun ls hl => ?_)
                    have hml : c.maxLocals = ls.size := hml9.trans hl.1.symm
                    refine lv_iinc (v := (nI (k2 + 1))) (lv' := [(7, .int (nI (k2 + 1))), (4, .long ((d3 * 31) + (pTellG (M (60 + 8 * i + j)) (nI k2)).toInt64)), (6, .int (nI j)), (0, .ref (ad 0)), (1, .long d), (3, .ref (ad (30 + i)))]) hx hb dX6_digestReceiver_80 hl (k := 1) rfl ((nI_succ k2).symm) (by decide) rfl (fun ls hl => ?_)
                    have hml : c.maxLocals = ls.size := hml9.trans hl.1.symm
                    refine lv_goto (tgt := 51) hx hb dX6_digestReceiver_83 (by decide) ?_
                    exact ih9 (k2 + 1) ((d3 * 31) + (pTellG (M (60 + 8 * i + j)) (nI k2)).toInt64) (by omega) (by omega) (by rw [ed3, pFold_s _ k2 _]) ls (lv_sub hl [0, 2, 1, 3, 4, 5] rfl)
              exact lp51_3 9 0 d2 (Nat.le_refl _) (Nat.zero_le _) (by rw [pFold_0, ed2]) ls (lv_sub hl [0, 1, 2, 3, 4, 5] rfl)
        exact lp39_2 (ns + 1) 0 d1 (Nat.le_refl _) (Nat.zero_le _) (by rw [pDSg_0, ed1]) ls (lv_sub hl [0, 1, 2, 3, 4] rfl)
      · have hkk1 : k1 < 14 := by
          have := mt (g13 k1 hk1).mpr c_10
          omega
        refine lv_lload hx hb dX6_digestReceiver_13 (lv_at hl 1 rfl) ?_
        refine lv_ldc2 hx hb hown (hG.w wK_X6_286 rfl) dX6_digestReceiver_15 ?_
        refine lv_lmul hx hb dX6_digestReceiver_18 ?_
        refine lv_aload_n hx hb dX6_digestReceiver_19 rfl (lv_at hl 2 rfl) ?_
        refine lv_aload_n hx hb dX6_digestReceiver_20 rfl (lv_at hl 4 rfl) ?_
        refine lv_iload hx hb dX6_digestReceiver_21 (lv_at hl 0 rfl) ?_
        refine kc_i (kr_V (As := [.ref (ad (30 + i)), .int (nI k1)]) (rest := [.long (d1 * 31)]) hx hb hml hown hG (c_X6_tellReceiver l D cy ad ns nt nr hL M V i hi (nI k1)) cf_X6_tellReceiver wM_X6_254 hI.o rfl hI ⟨rfl, rfl, by decide, by decide⟩ rfl rfl (Nat.le_of_ble_eq_true rfl) ⟨Nat.le_of_ble_eq_true rfl, Nat.le_of_ble_eq_true rfl⟩ dX6_digestReceiver_23) ?_
        refine lv_i2l (v := (pTellR M ns i (nI k1)).toInt64) hx hb dX6_digestReceiver_26 rfl ?_
        refine lv_ladd hx hb dX6_digestReceiver_27 ?_
        refine lv_lstore (lv' := [(4, .long ((d1 * 31) + (pTellR M ns i (nI k1)).toInt64)), (6, .int (nI k1)), (0, .ref (ad 0)), (1, .long d), (3, .ref (ad (30 + i)))]) hx hb dX6_digestReceiver_28 hl (by decide) rfl (fun ls hl => ?_)
        have hml : c.maxLocals = ls.size := hml9.trans hl.1.symm
        refine lv_iinc (v := (nI (k1 + 1))) (lv' := [(6, .int (nI (k1 + 1))), (4, .long ((d1 * 31) + (pTellR M ns i (nI k1)).toInt64)), (0, .ref (ad 0)), (1, .long d), (3, .ref (ad (30 + i)))]) hx hb dX6_digestReceiver_30 hl (k := 1) rfl ((nI_succ k1).symm) (by decide) rfl (fun ls hl => ?_)
        have hml : c.maxLocals = ls.size := hml9.trans hl.1.symm
        refine lv_goto (tgt := 6) hx hb dX6_digestReceiver_33 (by decide) ?_
        exact ih9 (k1 + 1) ((d1 * 31) + (pTellR M ns i (nI k1)).toInt64) (by omega) (by omega) (by rw [ed1, pFold_s _ k1 _]) ls (lv_sub hl [0, 1, 2, 3, 4] rfl)
  exact lp6_1 15 0 d (Nat.le_refl _) (Nat.zero_le _) (by rw [pFold_0]) ls (lv_sub hl [0, 1, 2, 3, 4] rfl)
