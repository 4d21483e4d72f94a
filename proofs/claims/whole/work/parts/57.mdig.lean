set_option maxHeartbeats 4000000 in
set_option maxRecDepth 100000 in
theorem c_X7_digest (l : Launch) (D : va_G) (cy : Nat → ClassId) (md : Nat → Nat) (N : Nat → Nat → Int32) (co su : Int64) (hA : MI md) (ns nt nr : Nat) (hL : LB ns nt nr) (hN : MN N ns nt nr) (hre : mRef N) (w9 : Nat) : Met l yX7_digest [.code yX7_digest cX7_digest 4 (some .long)] ({ frames := 7, cells := 51, slots := 669, locals := 172 } : Room) (PC D cy [.ref (md 0)] (fun H => MW D cy md N co su H ∧ H.size = w9)) (UQl (fun q => MA md q ∨ w9 ≤ q) (fun r H => r = mDig (thr N 0) ns nt nr co ∧ ∃ (N2 : Nat → Nat → Int32) (c2 s2 : Int64), mSame (thr N 0) N2 ∧ MW D cy md N2 c2 s2 H)) 51 669 (fun q => MA md q ∨ w9 ≤ q) := by
  refine k_body (by decide +kernel) (Nat.le_of_ble_eq_true rfl) ?_
  intro p e s m below meth c ls hx hb hml hown hr hlk hmn hl hG hI
  have hml9 : c.maxLocals = 4 := hml.trans hl.1
  have hl : lv_has ls 4 [(0, .ref (md 0))] := hl
  have hw := hI.1
  have hz : s.heap.size = w9 := hI.2
  have hS : va_S (fun q => MA md q ∨ w9 ≤ q) s.heap s.heap [] := va_S.rf
  have hL1 := hL.1
  have hL2 := hL.2.1
  have hL3 := hL.2.2
  refine lv_aload_n hx hb dX7_digest_0 rfl (lv_at hl 0 rfl) ?_
  refine lv_iconst (v := 0) hx hb dX7_digest_1 (by decide) ?_
  refine k_put (ci := 7) (C := RX7) (T := TX7) (N := 20) (v := .int 0) hx hb hown hG rfl kin_X7 tyX7 tyX7_ok nmX7 hw.o hS (Or.inl MA.o) 0 (by decide) wF_X7_41 rfl rfl rfl (Nat.le_of_ble_eq_true rfl) dX7_digest_2 (fun H1 locs hP1 z1 oq1 hS => ?_)
  have hw := hw.setO (r := (upd (N 0) 0 0)) (c' := co) (s' := su) hA hP1 oq1
  have hw : MW D cy md (thr N 0) co su H1 := hw
  refine lv_aload_n hx hb dX7_digest_5 rfl (lv_at hl 0 rfl) ?_
  refine lv_ldc2 hx hb hown (hG.w wK_X7_231 rfl) dX7_digest_6 ?_
  refine k_put (ci := 7) (C := RX7) (T := TX7) (N := 20) (v := .long 58189) hx hb hown hG rfl kin_X7 tyX7 tyX7_ok nmX7 hw.o hS (Or.inl MA.o) 19 (by decide) wF_X7_226 rfl rfl rfl (Nat.le_of_ble_eq_true rfl) dX7_digest_9 (fun H1 locs hP1 z1 oq1 hS => ?_)
  have hw : MW D cy md (thr N 0) co 58189 H1 := hw.setL hA hP1 oq1
  refine lv_iconst (v := 0) hx hb dX7_digest_12 (by decide) ?_
  refine lv_istore_n (lv' := [(1, .int 0), (0, .ref (md 0))]) hx hb dX7_digest_13 rfl hl (by decide) rfl (fun ls hl => ?_)
  have hml : c.maxLocals = ls.size := hml9.trans hl.1.symm
  have lp14_1 : ∀ (n9 : Nat) (k1 cs sl : Nat) (d1 : Int64) (H : Heap) (locs : List Loc), 9 + 1 - k1 ≤ n9 → k1 ≤ 9 → cs = k1 → sl = 9 * k1 → MW D cy md (thr N 0) co d1 H → d1 = pFold (fun k => mMany (thr N 0) ns nr (nI k).toNatClampNeg) k1 58189 → va_S (fun q => MA md q ∨ w9 ≤ q) s.heap H locs →  ∀ ls : Array Slot, lv_has ls 4 [(1, .int (nI k1)), (0, .ref (md 0))] → W p l e ({ frames := 7, cells := 51, slots := 669, locals := 172 } : Room) s m ([.ref (md 0)] : List Value).toArray below meth c H locs cs sl (MQ below (UQl (fun q => MA md q ∨ w9 ≤ q) (fun r H => r = mDig (thr N 0) ns nt nr co ∧ ∃ (N2 : Nat → Nat → Int32) (c2 s2 : Int64), mSame (thr N 0) N2 ∧ MW D cy md N2 c2 s2 H)) ([.ref (md 0)] : List Value).toArray s 51 669 (fun q => MA md q ∨ w9 ≤ q)) (F0 m 14 ls []) := by
    intro n9
    induction n9 with
    | zero =>
      intro k1 cs sl d1 H locs h9
      intro hj; exact absurd h9 (by omega)
    | succ n9 ih9 =>
      intro k1 cs sl d1 H locs hn9 hk1 ecs esl hw ed1 hS ls hl
      have hml : c.maxLocals = ls.size := hml9.trans hl.1.symm
      have hL1 := hL.1
      have hL2 := hL.2.1
      have hL3 := hL.2.2
      refine lv_iload_n hx hb dX7_digest_14 rfl (lv_at hl 0 rfl) ?_
      refine lv_bipush (v := 9) hx hb dX7_digest_15 (by decide) ?_
      refine lv_icmp_ge (tgt := 35) hx hb dX7_digest_17 (by decide) (fun c_17 => ?_) (fun c_17 => ?_)
      · have enk1 : k1 = 9 := ge_t hk1 (by omega) rfl c_17
        refine lv_iconst (v := 0) hx hb dX7_digest_35 (by decide) ?_
        refine lv_istore_n (lv' := [(1, .int 0), (0, .ref (md 0))]) hx hb dX7_digest_36 rfl hl (by decide) rfl (fun ls hl => ?_)
        have hml : c.maxLocals = ls.size := hml9.trans hl.1.symm
        have lp37_2 : ∀ (n9 : Nat) (j cs sl : Nat) (d2 : Int64) (H : Heap) (locs : List Loc), ns + 1 - j ≤ n9 → j ≤ ns → cs = 9 → sl = 81 → MW D cy md (thr N 0) co d2 H → d2 = (mDSts (thr N 0) nt j (mDigA (thr N 0) ns nr)) → va_S (fun q => MA md q ∨ w9 ≤ q) s.heap H locs →  ∀ ls : Array Slot, lv_has ls 4 [(1, .int (nI j)), (0, .ref (md 0))] → W p l e ({ frames := 7, cells := 51, slots := 669, locals := 172 } : Room) s m ([.ref (md 0)] : List Value).toArray below meth c H locs cs sl (MQ below (UQl (fun q => MA md q ∨ w9 ≤ q) (fun r H => r = mDig (thr N 0) ns nt nr co ∧ ∃ (N2 : Nat → Nat → Int32) (c2 s2 : Int64), mSame (thr N 0) N2 ∧ MW D cy md N2 c2 s2 H)) ([.ref (md 0)] : List Value).toArray s 51 669 (fun q => MA md q ∨ w9 ≤ q)) (F0 m 37 ls []) := by
          intro n9
          induction n9 with
          | zero =>
            intro j cs sl d2 H locs h9
            intro hj; exact absurd h9 (by omega)
          | succ n9 ih9 =>
            intro j cs sl d2 H locs hn9 hj ecs esl hw ed2 hS ls hl
            have hml : c.maxLocals = ls.size := hml9.trans hl.1.symm
            have ihj := ih9
            have hL1 := hL.1
            have hL2 := hL.2.1
            have hL3 := hL.2.2
            refine lv_iload_n hx hb dX7_digest_37 rfl (lv_at hl 0 rfl) ?_
            refine lv_aload_n hx hb dX7_digest_38 rfl (lv_at hl 1 rfl) ?_
            refine k_get (ci := 7) (C := RX7) (T := TX7) (N := 20) (v := .int ((thr N 0 0) 8)) hx hb hown hG rfl kin_X7 hw.o 8 (by decide) wF_X7_79 rfl dX7_digest_39 ?_
            refine lv_icmp_ge (tgt := 125) hx hb dX7_digest_42 (by decide) (fun c_42 => ?_) (fun c_42 => ?_)
            · have enj : j = ns := ge_t hj (by omega) (show thr N 0 0 8 = nI ns from hN.1) c_42
              refine lv_iconst (v := 0) hx hb dX7_digest_125 (by decide) ?_
              refine lv_istore_n (lv' := [(1, .int 0), (0, .ref (md 0))]) hx hb dX7_digest_126 rfl hl (by decide) rfl (fun ls hl => ?_)
              have hml : c.maxLocals = ls.size := hml9.trans hl.1.symm
              have lp127_3 : ∀ (n9 : Nat) (i cs sl : Nat) (d3 : Int64) (H : Heap) (locs : List Loc), nr + 1 - i ≤ n9 → i ≤ nr → cs = 9 + 14 * i → sl = 81 + 196 * i → MW D cy md (thr N 0) co d3 H → d3 = (mDRcs (thr N 0) ns i (mDSts (thr N 0) nt ns (mDigA (thr N 0) ns nr))) → va_S (fun q => MA md q ∨ w9 ≤ q) s.heap H locs →  ∀ ls : Array Slot, lv_has ls 4 [(1, .int (nI i)), (0, .ref (md 0))] → W p l e ({ frames := 7, cells := 51, slots := 669, locals := 172 } : Room) s m ([.ref (md 0)] : List Value).toArray below meth c H locs cs sl (MQ below (UQl (fun q => MA md q ∨ w9 ≤ q) (fun r H => r = mDig (thr N 0) ns nt nr co ∧ ∃ (N2 : Nat → Nat → Int32) (c2 s2 : Int64), mSame (thr N 0) N2 ∧ MW D cy md N2 c2 s2 H)) ([.ref (md 0)] : List Value).toArray s 51 669 (fun q => MA md q ∨ w9 ≤ q)) (F0 m 127 ls []) := by
                intro n9
                induction n9 with
                | zero =>
                  intro i cs sl d3 H locs h9
                  intro hj; exact absurd h9 (by omega)
                | succ n9 ih9 =>
                  intro i cs sl d3 H locs hn9 hi ecs esl hw ed3 hS ls hl
                  have hml : c.maxLocals = ls.size := hml9.trans hl.1.symm
                  have ihi := ih9
                  have hL1 := hL.1
                  have hL2 := hL.2.1
                  have hL3 := hL.2.2
                  refine lv_iload_n hx hb dX7_digest_127 rfl (lv_at hl 0 rfl) ?_
                  refine lv_aload_n hx hb dX7_digest_128 rfl (lv_at hl 1 rfl) ?_
                  refine k_get (ci := 7) (C := RX7) (T := TX7) (N := 20) (v := .int ((thr N 0 0) 10)) hx hb hown hG rfl kin_X7 hw.o 10 (by decide) wF_X7_92 rfl dX7_digest_129 ?_
                  refine lv_icmp_ge (tgt := 217) hx hb dX7_digest_132 (by decide) (fun c_132 => ?_) (fun c_132 => ?_)
                  · have eni : i = nr := ge_t hi (by omega) (show thr N 0 0 10 = nI nr from hN.2.2) c_132
                    refine lv_aload_n hx hb dX7_digest_217 rfl (lv_at hl 1 rfl) ?_
                    refine k_get (ci := 7) (C := RX7) (T := TX7) (N := 20) (v := .int ((thr N 0 0) 10)) hx hb hown hG rfl kin_X7 hw.o 10 (by decide) wF_X7_92 rfl dX7_digest_218 ?_
                    refine lv_if_le (tgt := 233) hx hb dX7_digest_221 (by decide) (fun c_221 => ?_) (fun c_221 => ?_)
                    · rw [show thr N 0 0 10 = nI nr from hN.2.2] at c_221
                      refine lv_aload_n hx hb dX7_digest_233 rfl (lv_at hl 1 rfl) ?_
                      refine k_get (ci := 7) (C := RX7) (T := TX7) (N := 20) (v := .long d3) hx hb hown hG rfl kin_X7 hw.o 19 (by decide) wF_X7_226 rfl dX7_digest_234 ?_
                      exact W.widen (k := 51) (n := 669) (by omega) (by omega) (ke_ul hx hb hr hlk hS dX7_digest_237 (⟨by unfold mDig mDig0; rw [if_pos c_221, ed3, eni], _, _, _, mSame.rf, hw⟩))
                    · rw [show thr N 0 0 10 = nI nr from hN.2.2] at c_221
                      refine lv_aload_n hx hb dX7_digest_224 rfl (lv_at hl 1 rfl) ?_
                      refine lv_aload_n hx hb dX7_digest_225 rfl (lv_at hl 1 rfl) ?_
                      refine lv_iconst (v := 0) hx hb dX7_digest_226 (by decide) ?_
                      refine kc_ui (kr_V (As := [.int 0]) (rest := [.ref (md 0)]) hx hb hml hown hG (c_X7_alarmNow l D cy md (thr N 0) co d3 hA ns hL.1 hN.1 (mRef_of (fun k hk => mset_n (by omega)) hre) 0 (by decide)) cf_X7_alarmNow wM_X7_223 hw.o rfl hw ⟨rfl, rfl, by decide, by decide⟩ rfl rfl (Nat.le_of_ble_eq_true rfl) ⟨(show cs + 0 ≤ 51 by omega), (show sl + 0 ≤ 669 by omega)⟩ dX7_digest_227) hS (fun _ h => Or.inl h) (fun r_227 H1 locs hp1 z1 oq1 hS => ?_)
                      obtain ⟨e9, B, hw⟩ := hp1
                      subst e9
                      refine kc_uv (kr_V (As := [.int (mAlNow (thr N 0) ns 0 co)]) (rest := []) hx hb hml hown hG (c_X7_add l D cy md (mB (mLQ (thr N 0) ns 0 (-1)).1 B) B.2.2.2 d3 hA (mAlNow (thr N 0) ns 0 co)) cf_X7_add wM_X7_233 hw.o rfl hw ⟨rfl, rfl, by decide, by decide⟩ rfl rfl (Nat.le_of_ble_eq_true rfl) ⟨(show cs + 0 ≤ 51 by omega), (show sl + 0 ≤ 669 by omega)⟩ dX7_digest_230) hS (fun _ h => Or.inl h) (fun H1 locs hp1 z1 oq1 hS => ?_)
                      have hw := hp1
                      refine lv_aload_n hx hb dX7_digest_233 rfl (lv_at hl 1 rfl) ?_
                      refine k_get (ci := 7) (C := RX7) (T := TX7) (N := 20) (v := .long (d3 * 31 + (mAlNow (thr N 0) ns 0 co).toInt64)) hx hb hown hG rfl kin_X7 hw.o 19 (by decide) wF_X7_226 rfl dX7_digest_234 ?_
                      exact W.widen (k := 51) (n := 669) (by omega) (by omega) (ke_ul hx hb hr hlk hS dX7_digest_237 (⟨by unfold mDig mDig0; rw [if_neg c_221, ed3, eni], _, _, _, mSame_B _ _ _ _ _ _ _, hw⟩))
                  · have hlti : i < nr := ge_f hi (by omega) (show thr N 0 0 10 = nI nr from hN.2.2) c_132
                    have hlt8i := Nat.lt_of_lt_of_le hlti hL.2.2
                    refine lv_iconst (v := 0) hx hb dX7_digest_135 (by decide) ?_
                    refine lv_istore_n (lv' := [(2, .int 0), (1, .int (nI i)), (0, .ref (md 0))]) hx hb dX7_digest_136 rfl hl (by decide) rfl (fun ls hl => ?_)
                    have hml : c.maxLocals = ls.size := hml9.trans hl.1.symm
                    have lp137_4 : ∀ (n9 : Nat) (k4 cs sl : Nat) (d30 : Int64) (H : Heap) (locs : List Loc), 14 + 1 - k4 ≤ n9 → k4 ≤ 14 → cs = 9 + 14 * i + k4 → sl = 81 + 196 * i + 14 * k4 → MW D cy md (thr N 0) co d30 H → d30 = pFold (fun k => mTold (thr N 0) ns i (nI k).toNatClampNeg) k4 (mDRcs (thr N 0) ns i (mDSts (thr N 0) nt ns (mDigA (thr N 0) ns nr))) → va_S (fun q => MA md q ∨ w9 ≤ q) s.heap H locs →  ∀ ls : Array Slot, lv_has ls 4 [(2, .int (nI k4)), (1, .int (nI i)), (0, .ref (md 0))] → W p l e ({ frames := 7, cells := 51, slots := 669, locals := 172 } : Room) s m ([.ref (md 0)] : List Value).toArray below meth c H locs cs sl (MQ below (UQl (fun q => MA md q ∨ w9 ≤ q) (fun r H => r = mDig (thr N 0) ns nt nr co ∧ ∃ (N2 : Nat → Nat → Int32) (c2 s2 : Int64), mSame (thr N 0) N2 ∧ MW D cy md N2 c2 s2 H)) ([.ref (md 0)] : List Value).toArray s 51 669 (fun q => MA md q ∨ w9 ≤ q)) (F0 m 137 ls []) := by
                      intro n9
                      induction n9 with
                      | zero =>
                        intro k4 cs sl d30 H locs h9
                        intro hj; exact absurd h9 (by omega)
                      | succ n9 ih9 =>
                        intro k4 cs sl d30 H locs hn9 hk4 ecs esl hw ed30 hS ls hl
                        have hml : c.maxLocals = ls.size := hml9.trans hl.1.symm
                        have hL1 := hL.1
                        have hL2 := hL.2.1
                        have hL3 := hL.2.2
                        refine lv_iload_n hx hb dX7_digest_137 rfl (lv_at hl 0 rfl) ?_
                        refine lv_bipush (v := 14) hx hb dX7_digest_138 (by decide) ?_
                        refine lv_icmp_ge (tgt := 159) hx hb dX7_digest_140 (by decide) (fun c_140 => ?_) (fun c_140 => ?_)
                        · have enk4 : k4 = 14 := ge_t hk4 (by omega) rfl c_140
                          refine lv_iconst (v := 0) hx hb dX7_digest_159 (by decide) ?_
                          refine lv_istore_n (lv' := [(2, .int 0), (1, .int (nI i)), (0, .ref (md 0))]) hx hb dX7_digest_160 rfl hl (by decide) rfl (fun ls hl => ?_)
                          have hml : c.maxLocals = ls.size := hml9.trans hl.1.symm
                          have lp161_5 : ∀ (n9 : Nat) (u cs sl : Nat) (d31 : Int64) (H : Heap) (locs : List Loc), ns + 1 - u ≤ n9 → u ≤ ns → cs = 9 + 14 * i + 14 → sl = 81 + 196 * i + 196 → MW D cy md (thr N 0) co d31 H → d31 = mDSg (thr N 0) i u (pFold (fun k => mTold (thr N 0) ns i (nI k).toNatClampNeg) 14 (mDRcs (thr N 0) ns i (mDSts (thr N 0) nt ns (mDigA (thr N 0) ns nr)))) → va_S (fun q => MA md q ∨ w9 ≤ q) s.heap H locs →  ∀ ls : Array Slot, lv_has ls 4 [(2, .int (nI u)), (1, .int (nI i)), (0, .ref (md 0))] → W p l e ({ frames := 7, cells := 51, slots := 669, locals := 172 } : Room) s m ([.ref (md 0)] : List Value).toArray below meth c H locs cs sl (MQ below (UQl (fun q => MA md q ∨ w9 ≤ q) (fun r H => r = mDig (thr N 0) ns nt nr co ∧ ∃ (N2 : Nat → Nat → Int32) (c2 s2 : Int64), mSame (thr N 0) N2 ∧ MW D cy md N2 c2 s2 H)) ([.ref (md 0)] : List Value).toArray s 51 669 (fun q => MA md q ∨ w9 ≤ q)) (F0 m 161 ls []) := by
                            intro n9
                            induction n9 with
                            | zero =>
                              intro u cs sl d31 H locs h9
                              intro hj; exact absurd h9 (by omega)
                            | succ n9 ih9 =>
                              intro u cs sl d31 H locs hn9 hu ecs esl hw ed31 hS ls hl
                              have hml : c.maxLocals = ls.size := hml9.trans hl.1.symm
                              have ihu := ih9
                              have hL1 := hL.1
                              have hL2 := hL.2.1
                              have hL3 := hL.2.2
                              refine lv_iload_n hx hb dX7_digest_161 rfl (lv_at hl 0 rfl) ?_
                              refine lv_aload_n hx hb dX7_digest_162 rfl (lv_at hl 2 rfl) ?_
                              refine k_get (ci := 7) (C := RX7) (T := TX7) (N := 20) (v := .int ((thr N 0 0) 8)) hx hb hown hG rfl kin_X7 hw.o 8 (by decide) wF_X7_79 rfl dX7_digest_163 ?_
                              refine lv_icmp_ge (tgt := 200) hx hb dX7_digest_166 (by decide) (fun c_166 => ?_) (fun c_166 => ?_)
                              · have enu : u = ns := ge_t hu (by omega) (show thr N 0 0 8 = nI ns from hN.1) c_166
                                refine lv_aload_n hx hb dX7_digest_200 rfl (lv_at hl 2 rfl) ?_
                                refine lv_aload_n hx hb dX7_digest_201 rfl (lv_at hl 2 rfl) ?_
                                refine lv_iload_n hx hb dX7_digest_202 rfl (lv_at hl 1 rfl) ?_
                                refine lv_bipush (v := 6) hx hb dX7_digest_203 (by decide) ?_
                                refine kc_i (kr_V (As := [.int (nI i), .int 6]) (rest := [.ref (md 0)]) hx hb hml hown hG (c_X7_setSeen l D cy md (thr N 0) co d31 ns hL.1 hN.1 i hlt8i 6) cf_X7_setSeen wM_X7_122 hw.o rfl hw ⟨rfl, rfl, by decide, by decide⟩ rfl rfl (Nat.le_of_ble_eq_true rfl) ⟨(show cs + 0 ≤ 51 by omega), (show sl + 0 ≤ 669 by omega)⟩ dX7_digest_205) ?_
                                refine kc_uv (kr_V (As := [.int (mSet (thr N 0 (40 + i)) (thr N 0) 6 ns)]) (rest := []) hx hb hml hown hG (c_X7_add l D cy md (thr N 0) co d31 hA (mSet (thr N 0 (40 + i)) (thr N 0) 6 ns)) cf_X7_add wM_X7_233 hw.o rfl hw ⟨rfl, rfl, by decide, by decide⟩ rfl rfl (Nat.le_of_ble_eq_true rfl) ⟨(show cs + 0 ≤ 51 by omega), (show sl + 0 ≤ 669 by omega)⟩ dX7_digest_208) hS (fun _ h => Or.inl h) (fun H1 locs hp1 z1 oq1 hS => ?_)
                                have hw := hp1
                                refine lv_iinc (v := (nI (i + 1))) (lv' := [(1, .int (nI (i + 1))), (2, .int (nI u)), (0, .ref (md 0))]) hx hb dX7_digest_211 hl (k := 1) rfl ((nI_succ i).symm) (by decide) rfl (fun ls hl => ?_)
                                have hml : c.maxLocals = ls.size := hml9.trans hl.1.symm
                                refine lv_goto (tgt := 127) hx hb dX7_digest_214 (by decide) ?_
                                exact ihi (i + 1) _ _ _ _ _ (by omega) hlti (by omega) (by omega) hw (by rw [ed31, enu, mDRcs_s]; rfl) hS ls (lv_sub hl [0, 2] rfl)
                              · have hltu : u < ns := ge_f hu (by omega) (show thr N 0 0 8 = nI ns from hN.1) c_166
                                have hlt8u := Nat.lt_of_lt_of_le hltu hL.1
                                refine lv_iconst (v := 0) hx hb dX7_digest_169 (by decide) ?_
                                refine lv_istore_n (lv' := [(3, .int 0), (2, .int (nI u)), (1, .int (nI i)), (0, .ref (md 0))]) hx hb dX7_digest_170 rfl hl (by decide) rfl (fun ls hl => ?_)
                                have hml : c.maxLocals = ls.size := hml9.trans hl.1.symm
                                have lp171_6 : ∀ (n9 : Nat) (k5 cs sl : Nat) (d32 : Int64) (H : Heap) (locs : List Loc), 8 + 1 - k5 ≤ n9 → k5 ≤ 8 → cs = 9 + 14 * i + 14 → sl = 81 + 196 * i + 196 → MW D cy md (thr N 0) co d32 H → d32 = pFold (fun k => mSeenNow (thr N 0 (60 + 8 * i + u)) (nI k)) k5 (mDSg (thr N 0) i u (pFold (fun k => mTold (thr N 0) ns i (nI k).toNatClampNeg) 14 (mDRcs (thr N 0) ns i (mDSts (thr N 0) nt ns (mDigA (thr N 0) ns nr))))) → va_S (fun q => MA md q ∨ w9 ≤ q) s.heap H locs →  ∀ ls : Array Slot, lv_has ls 4 [(3, .int (nI k5)), (2, .int (nI u)), (1, .int (nI i)), (0, .ref (md 0))] → W p l e ({ frames := 7, cells := 51, slots := 669, locals := 172 } : Room) s m ([.ref (md 0)] : List Value).toArray below meth c H locs cs sl (MQ below (UQl (fun q => MA md q ∨ w9 ≤ q) (fun r H => r = mDig (thr N 0) ns nt nr co ∧ ∃ (N2 : Nat → Nat → Int32) (c2 s2 : Int64), mSame (thr N 0) N2 ∧ MW D cy md N2 c2 s2 H)) ([.ref (md 0)] : List Value).toArray s 51 669 (fun q => MA md q ∨ w9 ≤ q)) (F0 m 171 ls []) := by
                                  intro n9
                                  induction n9 with
                                  | zero =>
                                    intro k5 cs sl d32 H locs h9
                                    intro hj; exact absurd h9 (by omega)
                                  | succ n9 ih9 =>
                                    intro k5 cs sl d32 H locs hn9 hk5 ecs esl hw ed32 hS ls hl
                                    have hml : c.maxLocals = ls.size := hml9.trans hl.1.symm
                                    have hL1 := hL.1
                                    have hL2 := hL.2.1
                                    have hL3 := hL.2.2
                                    refine lv_iload_n hx hb dX7_digest_171 rfl (lv_at hl 0 rfl) ?_
                                    refine lv_bipush (v := 8) hx hb dX7_digest_172 (by decide) ?_
                                    refine lv_icmp_ge (tgt := 194) hx hb dX7_digest_174 (by decide) (fun c_174 => ?_) (fun c_174 => ?_)
                                    · have enk5 : k5 = 8 := ge_t hk5 (by omega) rfl c_174
                                      refine lv_iinc (v := (nI (u + 1))) (lv' := [(2, .int (nI (u + 1))), (3, .int (nI k5)), (1, .int (nI i)), (0, .ref (md 0))]) hx hb dX7_digest_194 hl (k := 1) rfl ((nI_succ u).symm) (by decide) rfl (fun ls hl => ?_)
                                      have hml : c.maxLocals = ls.size := hml9.trans hl.1.symm
                                      refine lv_goto (tgt := 161) hx hb dX7_digest_197 (by decide) ?_
                                      exact ihu (u + 1) _ _ _ _ _ (by omega) hltu (by omega) (by omega) hw (by rw [ed32, enk5, mDSg_s]) hS ls (lv_sub hl [0, 2, 3] rfl)
                                    · have hltk5 : k5 < 8 := ge_f hk5 (by omega) rfl c_174
                                      refine lv_aload_n hx hb dX7_digest_177 rfl (lv_at hl 3 rfl) ?_
                                      refine lv_aload_n hx hb dX7_digest_178 rfl (lv_at hl 3 rfl) ?_
                                      refine lv_iload_n hx hb dX7_digest_179 rfl (lv_at hl 2 rfl) ?_
                                      refine lv_iload_n hx hb dX7_digest_180 rfl (lv_at hl 1 rfl) ?_
                                      refine lv_iload_n hx hb dX7_digest_181 rfl (lv_at hl 0 rfl) ?_
                                      refine kc_i (kr_V (As := [.int (nI i), .int (nI u), .int (nI k5)]) (rest := [.ref (md 0)]) hx hb hml hown hG (c_X7_seenNow l D cy md (thr N 0) co d32 i u hlt8i hlt8u (nI k5) (nI_pos (by omega)) (nI_le (a := k5) (b := 7) (by omega) (by decide))) cf_X7_seenNow wM_X7_211 hw.o rfl hw ⟨rfl, rfl, by decide, by decide⟩ rfl rfl (Nat.le_of_ble_eq_true rfl) ⟨(show cs + 0 ≤ 51 by omega), (show sl + 0 ≤ 669 by omega)⟩ dX7_digest_182) ?_
                                      refine kc_uv (kr_V (As := [.int (mSeenNow ((thr N 0) (60 + 8 * i + u)) (nI k5))]) (rest := []) hx hb hml hown hG (c_X7_add l D cy md (thr N 0) co d32 hA (mSeenNow ((thr N 0) (60 + 8 * i + u)) (nI k5))) cf_X7_add wM_X7_233 hw.o rfl hw ⟨rfl, rfl, by decide, by decide⟩ rfl rfl (Nat.le_of_ble_eq_true rfl) ⟨(show cs + 0 ≤ 51 by omega), (show sl + 0 ≤ 669 by omega)⟩ dX7_digest_185) hS (fun _ h => Or.inl h) (fun H1 locs hp1 z1 oq1 hS => ?_)
                                      have hw := hp1
                                      refine lv_iinc (v := (nI (k5 + 1))) (lv' := [(3, .int (nI (k5 + 1))), (2, .int (nI u)), (1, .int (nI i)), (0, .ref (md 0))]) hx hb dX7_digest_188 hl (k := 0) rfl ((nI_succ k5).symm) (by decide) rfl (fun ls hl => ?_)
                                      have hml : c.maxLocals = ls.size := hml9.trans hl.1.symm
                                      refine lv_goto (tgt := 171) hx hb dX7_digest_191 (by decide) ?_
                                      exact ih9 (k5 + 1) _ _ _ _ _ (by omega) hltk5 (by omega) (by omega) hw (by rw [ed32, pFold_s _ k5 _]) hS ls (lv_sub hl [0, 1, 2, 3] rfl)
                                exact lp171_6 (8 + 1) 0 _ _ _ _ _ (Nat.le_refl _) (Nat.zero_le _) (by omega) (by omega) hw (by rw [pFold_0]; exact ed31) hS ls (lv_sub hl [0, 1, 2, 3] rfl)
                          exact lp161_5 (ns + 1) 0 _ _ _ _ _ (Nat.le_refl _) (Nat.zero_le _) (by omega) (by omega) hw (by rw [mDSg_0, ed30, enk4]) hS ls (lv_sub hl [0, 1, 2] rfl)
                        · have hltk4 : k4 < 14 := ge_f hk4 (by omega) rfl c_140
                          refine lv_aload_n hx hb dX7_digest_143 rfl (lv_at hl 2 rfl) ?_
                          refine lv_aload_n hx hb dX7_digest_144 rfl (lv_at hl 2 rfl) ?_
                          refine lv_iload_n hx hb dX7_digest_145 rfl (lv_at hl 1 rfl) ?_
                          refine lv_iload_n hx hb dX7_digest_146 rfl (lv_at hl 0 rfl) ?_
                          refine kc_ui (kr_V (As := [.int (nI i), .int (nI k4)]) (rest := [.ref (md 0)]) hx hb hml hown hG (c_X7_ofReceiverNow l D cy md (thr N 0) co d30 hA ns nt nr hL hN.thr i hlt8i (nI k4) (vp_in_nI (n := k4) hltk4 (by decide)) _) cf_X7_ofReceiverNow wM_X7_214 hw.o rfl ⟨hw, rfl⟩ ⟨rfl, rfl, by decide, by decide⟩ rfl rfl (Nat.le_of_ble_eq_true rfl) ⟨(show cs + 1 ≤ 51 by omega), (show sl + 14 ≤ 669 by omega)⟩ dX7_digest_147) hS (fun q h => h.elim Or.inl (fun h => Or.inr (Nat.le_trans (hz ▸ hS.1) h))) (fun r_147 H1 locs hp1 z1 oq1 hS => ?_)
                          obtain ⟨e9, hw⟩ := hp1
                          subst e9
                          refine kc_uv (kr_V (As := [.int (mTold (thr N 0) ns i (nI k4).toNatClampNeg)]) (rest := []) hx hb hml hown hG (c_X7_add l D cy md (thr N 0) co d30 hA (mTold (thr N 0) ns i (nI k4).toNatClampNeg)) cf_X7_add wM_X7_233 hw.o rfl hw ⟨rfl, rfl, by decide, by decide⟩ rfl rfl (Nat.le_of_ble_eq_true rfl) ⟨(show (cs + 1) + 0 ≤ 51 by omega), (show (sl + 14) + 0 ≤ 669 by omega)⟩ dX7_digest_150) hS (fun _ h => Or.inl h) (fun H1 locs hp1 z1 oq1 hS => ?_)
                          have hw := hp1
                          refine lv_iinc (v := (nI (k4 + 1))) (lv' := [(2, .int (nI (k4 + 1))), (1, .int (nI i)), (0, .ref (md 0))]) hx hb dX7_digest_153 hl (k := 0) rfl ((nI_succ k4).symm) (by decide) rfl (fun ls hl => ?_)
                          have hml : c.maxLocals = ls.size := hml9.trans hl.1.symm
                          refine lv_goto (tgt := 137) hx hb dX7_digest_156 (by decide) ?_
                          exact ih9 (k4 + 1) _ _ _ _ _ (by omega) hltk4 (by omega) (by omega) hw (by rw [ed30, pFold_s _ k4 _]) hS ls (lv_sub hl [0, 1, 2] rfl)
                    exact lp137_4 (14 + 1) 0 _ _ _ _ _ (Nat.le_refl _) (Nat.zero_le _) (by omega) (by omega) hw (by rw [pFold_0]; exact ed3) hS ls (lv_sub hl [0, 1, 2] rfl)
              exact lp127_3 (nr + 1) 0 _ _ _ _ _ (Nat.le_refl _) (Nat.zero_le _) (by omega) (by omega) hw (by rw [mDRcs_0, ed2, enj]) hS ls (lv_sub hl [0, 1] rfl)
            · have hltj : j < ns := ge_f hj (by omega) (show thr N 0 0 8 = nI ns from hN.1) c_42
              have hlt8j := Nat.lt_of_lt_of_le hltj hL.1
              refine lv_iconst (v := 0) hx hb dX7_digest_45 (by decide) ?_
              refine lv_istore_n (lv' := [(2, .int 0), (1, .int (nI j)), (0, .ref (md 0))]) hx hb dX7_digest_46 rfl hl (by decide) rfl (fun ls hl => ?_)
              have hml : c.maxLocals = ls.size := hml9.trans hl.1.symm
              have lp47_7 : ∀ (n9 : Nat) (k2 cs sl : Nat) (d20 : Int64) (H : Heap) (locs : List Loc), 8 + 1 - k2 ≤ n9 → k2 ≤ 8 → cs = 9 → sl = 81 → MW D cy md (thr N 0) co d20 H → d20 = pFold (fun k => mOfStar (thr N 0 (10 + j)) (nI k)) k2 (mDSts (thr N 0) nt j (mDigA (thr N 0) ns nr)) → va_S (fun q => MA md q ∨ w9 ≤ q) s.heap H locs →  ∀ ls : Array Slot, lv_has ls 4 [(2, .int (nI k2)), (1, .int (nI j)), (0, .ref (md 0))] → W p l e ({ frames := 7, cells := 51, slots := 669, locals := 172 } : Room) s m ([.ref (md 0)] : List Value).toArray below meth c H locs cs sl (MQ below (UQl (fun q => MA md q ∨ w9 ≤ q) (fun r H => r = mDig (thr N 0) ns nt nr co ∧ ∃ (N2 : Nat → Nat → Int32) (c2 s2 : Int64), mSame (thr N 0) N2 ∧ MW D cy md N2 c2 s2 H)) ([.ref (md 0)] : List Value).toArray s 51 669 (fun q => MA md q ∨ w9 ≤ q)) (F0 m 47 ls []) := by
                intro n9
                induction n9 with
                | zero =>
                  intro k2 cs sl d20 H locs h9
                  intro hj; exact absurd h9 (by omega)
                | succ n9 ih9 =>
                  intro k2 cs sl d20 H locs hn9 hk2 ecs esl hw ed20 hS ls hl
                  have hml : c.maxLocals = ls.size := hml9.trans hl.1.symm
                  have hL1 := hL.1
                  have hL2 := hL.2.1
                  have hL3 := hL.2.2
                  refine lv_iload_n hx hb dX7_digest_47 rfl (lv_at hl 0 rfl) ?_
                  refine lv_bipush (v := 8) hx hb dX7_digest_48 (by decide) ?_
                  refine lv_icmp_ge (tgt := 69) hx hb dX7_digest_50 (by decide) (fun c_50 => ?_) (fun c_50 => ?_)
                  · have enk2 : k2 = 8 := ge_t hk2 (by omega) rfl c_50
                    refine lv_iconst (v := 0) hx hb dX7_digest_69 (by decide) ?_
                    refine lv_istore_n (lv' := [(2, .int 0), (1, .int (nI j)), (0, .ref (md 0))]) hx hb dX7_digest_70 rfl hl (by decide) rfl (fun ls hl => ?_)
                    have hml : c.maxLocals = ls.size := hml9.trans hl.1.symm
                    have lp71_8 : ∀ (n9 : Nat) (k3 cs sl : Nat) (d21 : Int64) (H : Heap) (locs : List Loc), 8 + 1 - k3 ≤ n9 → k3 ≤ 8 → cs = 9 → sl = 81 → MW D cy md (thr N 0) co d21 H → d21 = pFold (fun k => mMsg (thr N 0 0 1) (thr N 0 (10 + j)) (thr N 0 (20 + j)) (nI k)) k3 (pFold (fun k => mOfStar (thr N 0 (10 + j)) (nI k)) 8 (mDSts (thr N 0) nt j (mDigA (thr N 0) ns nr))) → va_S (fun q => MA md q ∨ w9 ≤ q) s.heap H locs →  ∀ ls : Array Slot, lv_has ls 4 [(2, .int (nI k3)), (1, .int (nI j)), (0, .ref (md 0))] → W p l e ({ frames := 7, cells := 51, slots := 669, locals := 172 } : Room) s m ([.ref (md 0)] : List Value).toArray below meth c H locs cs sl (MQ below (UQl (fun q => MA md q ∨ w9 ≤ q) (fun r H => r = mDig (thr N 0) ns nt nr co ∧ ∃ (N2 : Nat → Nat → Int32) (c2 s2 : Int64), mSame (thr N 0) N2 ∧ MW D cy md N2 c2 s2 H)) ([.ref (md 0)] : List Value).toArray s 51 669 (fun q => MA md q ∨ w9 ≤ q)) (F0 m 71 ls []) := by
                      intro n9
                      induction n9 with
                      | zero =>
                        intro k3 cs sl d21 H locs h9
                        intro hj; exact absurd h9 (by omega)
                      | succ n9 ih9 =>
                        intro k3 cs sl d21 H locs hn9 hk3 ecs esl hw ed21 hS ls hl
                        have hml : c.maxLocals = ls.size := hml9.trans hl.1.symm
                        have hL1 := hL.1
                        have hL2 := hL.2.1
                        have hL3 := hL.2.2
                        refine lv_iload_n hx hb dX7_digest_71 rfl (lv_at hl 0 rfl) ?_
                        refine lv_bipush (v := 8) hx hb dX7_digest_72 (by decide) ?_
                        refine lv_icmp_ge (tgt := 93) hx hb dX7_digest_74 (by decide) (fun c_74 => ?_) (fun c_74 => ?_)
                        · have enk3 : k3 = 8 := ge_t hk3 (by omega) rfl c_74
                          refine lv_iconst (v := 0) hx hb dX7_digest_93 (by decide) ?_
                          refine lv_istore_n (lv' := [(2, .int 0), (1, .int (nI j)), (0, .ref (md 0))]) hx hb dX7_digest_94 rfl hl (by decide) rfl (fun ls hl => ?_)
                          have hml : c.maxLocals = ls.size := hml9.trans hl.1.symm
                          have lp95_9 : ∀ (n9 : Nat) (t cs sl : Nat) (d22 : Int64) (H : Heap) (locs : List Loc), nt + 1 - t ≤ n9 → t ≤ nt → cs = 9 → sl = 81 → MW D cy md (thr N 0) co d22 H → d22 = pFold (fun i => mFs (thr N 0 (10 + j)) (thr N 0 (30 + i)) 49 0) t (pFold (fun k => mMsg (thr N 0 0 1) (thr N 0 (10 + j)) (thr N 0 (20 + j)) (nI k)) 8 (pFold (fun k => mOfStar (thr N 0 (10 + j)) (nI k)) 8 (mDSts (thr N 0) nt j (mDigA (thr N 0) ns nr)))) → va_S (fun q => MA md q ∨ w9 ≤ q) s.heap H locs →  ∀ ls : Array Slot, lv_has ls 4 [(2, .int (nI t)), (1, .int (nI j)), (0, .ref (md 0))] → W p l e ({ frames := 7, cells := 51, slots := 669, locals := 172 } : Room) s m ([.ref (md 0)] : List Value).toArray below meth c H locs cs sl (MQ below (UQl (fun q => MA md q ∨ w9 ≤ q) (fun r H => r = mDig (thr N 0) ns nt nr co ∧ ∃ (N2 : Nat → Nat → Int32) (c2 s2 : Int64), mSame (thr N 0) N2 ∧ MW D cy md N2 c2 s2 H)) ([.ref (md 0)] : List Value).toArray s 51 669 (fun q => MA md q ∨ w9 ≤ q)) (F0 m 95 ls []) := by
                            intro n9
                            induction n9 with
                            | zero =>
                              intro t cs sl d22 H locs h9
                              intro hj; exact absurd h9 (by omega)
                            | succ n9 ih9 =>
                              intro t cs sl d22 H locs hn9 ht ecs esl hw ed22 hS ls hl
                              have hml : c.maxLocals = ls.size := hml9.trans hl.1.symm
                              have hL1 := hL.1
                              have hL2 := hL.2.1
                              have hL3 := hL.2.2
                              refine lv_iload_n hx hb dX7_digest_95 rfl (lv_at hl 0 rfl) ?_
                              refine lv_aload_n hx hb dX7_digest_96 rfl (lv_at hl 2 rfl) ?_
                              refine k_get (ci := 7) (C := RX7) (T := TX7) (N := 20) (v := .int ((thr N 0 0) 9)) hx hb hown hG rfl kin_X7 hw.o 9 (by decide) wF_X7_89 rfl dX7_digest_97 ?_
                              refine lv_icmp_ge (tgt := 119) hx hb dX7_digest_100 (by decide) (fun c_100 => ?_) (fun c_100 => ?_)
                              · have ent : t = nt := ge_t ht (by omega) (show thr N 0 0 9 = nI nt from hN.2.1) c_100
                                refine lv_iinc (v := (nI (j + 1))) (lv' := [(1, .int (nI (j + 1))), (2, .int (nI t)), (0, .ref (md 0))]) hx hb dX7_digest_119 hl (k := 1) rfl ((nI_succ j).symm) (by decide) rfl (fun ls hl => ?_)
                                have hml : c.maxLocals = ls.size := hml9.trans hl.1.symm
                                refine lv_goto (tgt := 37) hx hb dX7_digest_122 (by decide) ?_
                                exact ihj (j + 1) _ _ _ _ _ (by omega) hltj (by omega) (by omega) hw (by rw [ed22, ent, mDSts_s]; rfl) hS ls (lv_sub hl [0, 2] rfl)
                              · have hltt : t < nt := ge_f ht (by omega) (show thr N 0 0 9 = nI nt from hN.2.1) c_100
                                have hlt8t := Nat.lt_of_lt_of_le hltt hL.2.1
                                refine lv_aload_n hx hb dX7_digest_103 rfl (lv_at hl 2 rfl) ?_
                                refine lv_aload_n hx hb dX7_digest_104 rfl (lv_at hl 2 rfl) ?_
                                refine lv_iload_n hx hb dX7_digest_105 rfl (lv_at hl 1 rfl) ?_
                                refine lv_iload_n hx hb dX7_digest_106 rfl (lv_at hl 0 rfl) ?_
                                refine kc_i (kr_V (As := [.int (nI j), .int (nI t)]) (rest := [.ref (md 0)]) hx hb hml hown hG (c_X7_heardNow l D cy md (thr N 0) co d22 j t hlt8j hlt8t) cf_X7_heardNow wM_X7_220 hw.o rfl hw ⟨rfl, rfl, by decide, by decide⟩ rfl rfl (Nat.le_of_ble_eq_true rfl) ⟨(show cs + 0 ≤ 51 by omega), (show sl + 0 ≤ 669 by omega)⟩ dX7_digest_107) ?_
                                refine kc_uv (kr_V (As := [.int (mFs ((thr N 0) (10 + j)) ((thr N 0) (30 + t)) 49 0)]) (rest := []) hx hb hml hown hG (c_X7_add l D cy md (thr N 0) co d22 hA (mFs ((thr N 0) (10 + j)) ((thr N 0) (30 + t)) 49 0)) cf_X7_add wM_X7_233 hw.o rfl hw ⟨rfl, rfl, by decide, by decide⟩ rfl rfl (Nat.le_of_ble_eq_true rfl) ⟨(show cs + 0 ≤ 51 by omega), (show sl + 0 ≤ 669 by omega)⟩ dX7_digest_110) hS (fun _ h => Or.inl h) (fun H1 locs hp1 z1 oq1 hS => ?_)
                                have hw := hp1
                                refine lv_iinc (v := (nI (t + 1))) (lv' := [(2, .int (nI (t + 1))), (1, .int (nI j)), (0, .ref (md 0))]) hx hb dX7_digest_113 hl (k := 0) rfl ((nI_succ t).symm) (by decide) rfl (fun ls hl => ?_)
                                have hml : c.maxLocals = ls.size := hml9.trans hl.1.symm
                                refine lv_goto (tgt := 95) hx hb dX7_digest_116 (by decide) ?_
                                exact ih9 (t + 1) _ _ _ _ _ (by omega) hltt (by omega) (by omega) hw (by rw [ed22, pFold_s _ t _]) hS ls (lv_sub hl [0, 1, 2] rfl)
                          exact lp95_9 (nt + 1) 0 _ _ _ _ _ (Nat.le_refl _) (Nat.zero_le _) (by omega) (by omega) hw (by rw [pFold_0, ed21, enk3]) hS ls (lv_sub hl [0, 1, 2] rfl)
                        · have hltk3 : k3 < 8 := ge_f hk3 (by omega) rfl c_74
                          refine lv_aload_n hx hb dX7_digest_77 rfl (lv_at hl 2 rfl) ?_
                          refine lv_aload_n hx hb dX7_digest_78 rfl (lv_at hl 2 rfl) ?_
                          refine lv_iload_n hx hb dX7_digest_79 rfl (lv_at hl 1 rfl) ?_
                          refine lv_iload_n hx hb dX7_digest_80 rfl (lv_at hl 0 rfl) ?_
                          refine kc_i (kr_V (As := [.int (nI j), .int (nI k3)]) (rest := [.ref (md 0)]) hx hb hml hown hG (c_X7_messageNow l D cy md (thr N 0) co d21 j hlt8j (nI k3) (nI_pos (by omega))) cf_X7_messageNow wM_X7_208 hw.o rfl hw ⟨rfl, rfl, by decide, by decide⟩ rfl rfl (Nat.le_of_ble_eq_true rfl) ⟨(show cs + 0 ≤ 51 by omega), (show sl + 0 ≤ 669 by omega)⟩ dX7_digest_81) ?_
                          refine kc_uv (kr_V (As := [.int (mMsg ((thr N 0) 0 1) ((thr N 0) (10 + j)) ((thr N 0) (20 + j)) (nI k3))]) (rest := []) hx hb hml hown hG (c_X7_add l D cy md (thr N 0) co d21 hA (mMsg ((thr N 0) 0 1) ((thr N 0) (10 + j)) ((thr N 0) (20 + j)) (nI k3))) cf_X7_add wM_X7_233 hw.o rfl hw ⟨rfl, rfl, by decide, by decide⟩ rfl rfl (Nat.le_of_ble_eq_true rfl) ⟨(show cs + 0 ≤ 51 by omega), (show sl + 0 ≤ 669 by omega)⟩ dX7_digest_84) hS (fun _ h => Or.inl h) (fun H1 locs hp1 z1 oq1 hS => ?_)
                          have hw := hp1
                          refine lv_iinc (v := (nI (k3 + 1))) (lv' := [(2, .int (nI (k3 + 1))), (1, .int (nI j)), (0, .ref (md 0))]) hx hb dX7_digest_87 hl (k := 0) rfl ((nI_succ k3).symm) (by decide) rfl (fun ls hl => ?_)
                          have hml : c.maxLocals = ls.size := hml9.trans hl.1.symm
                          refine lv_goto (tgt := 71) hx hb dX7_digest_90 (by decide) ?_
                          exact ih9 (k3 + 1) _ _ _ _ _ (by omega) hltk3 (by omega) (by omega) hw (by rw [ed21, pFold_s _ k3 _]) hS ls (lv_sub hl [0, 1, 2] rfl)
                    exact lp71_8 (8 + 1) 0 _ _ _ _ _ (Nat.le_refl _) (Nat.zero_le _) (by omega) (by omega) hw (by rw [pFold_0, ed20, enk2]) hS ls (lv_sub hl [0, 1, 2] rfl)
                  · have hltk2 : k2 < 8 := ge_f hk2 (by omega) rfl c_50
                    refine lv_aload_n hx hb dX7_digest_53 rfl (lv_at hl 2 rfl) ?_
                    refine lv_aload_n hx hb dX7_digest_54 rfl (lv_at hl 2 rfl) ?_
                    refine lv_iload_n hx hb dX7_digest_55 rfl (lv_at hl 1 rfl) ?_
                    refine lv_iload_n hx hb dX7_digest_56 rfl (lv_at hl 0 rfl) ?_
                    refine kc_i (kr_V (As := [.int (nI j), .int (nI k2)]) (rest := [.ref (md 0)]) hx hb hml hown hG (c_X7_ofStarNow l D cy md (thr N 0) co d20 j hlt8j (nI k2) (nI_pos (by omega))) cf_X7_ofStarNow wM_X7_205 hw.o rfl hw ⟨rfl, rfl, by decide, by decide⟩ rfl rfl (Nat.le_of_ble_eq_true rfl) ⟨(show cs + 0 ≤ 51 by omega), (show sl + 0 ≤ 669 by omega)⟩ dX7_digest_57) ?_
                    refine kc_uv (kr_V (As := [.int (mOfStar ((thr N 0) (10 + j)) (nI k2))]) (rest := []) hx hb hml hown hG (c_X7_add l D cy md (thr N 0) co d20 hA (mOfStar ((thr N 0) (10 + j)) (nI k2))) cf_X7_add wM_X7_233 hw.o rfl hw ⟨rfl, rfl, by decide, by decide⟩ rfl rfl (Nat.le_of_ble_eq_true rfl) ⟨(show cs + 0 ≤ 51 by omega), (show sl + 0 ≤ 669 by omega)⟩ dX7_digest_60) hS (fun _ h => Or.inl h) (fun H1 locs hp1 z1 oq1 hS => ?_)
                    have hw := hp1
                    refine lv_iinc (v := (nI (k2 + 1))) (lv' := [(2, .int (nI (k2 + 1))), (1, .int (nI j)), (0, .ref (md 0))]) hx hb dX7_digest_63 hl (k := 0) rfl ((nI_succ k2).symm) (by decide) rfl (fun ls hl => ?_)
                    have hml : c.maxLocals = ls.size := hml9.trans hl.1.symm
                    refine lv_goto (tgt := 47) hx hb dX7_digest_66 (by decide) ?_
                    exact ih9 (k2 + 1) _ _ _ _ _ (by omega) hltk2 (by omega) (by omega) hw (by rw [ed20, pFold_s _ k2 _]) hS ls (lv_sub hl [0, 1, 2] rfl)
              exact lp47_7 (8 + 1) 0 _ _ _ _ _ (Nat.le_refl _) (Nat.zero_le _) (by omega) (by omega) hw (by rw [pFold_0]; exact ed2) hS ls (lv_sub hl [0, 1, 2] rfl)
        exact lp37_2 (ns + 1) 0 _ _ _ _ _ (Nat.le_refl _) (Nat.zero_le _) (by omega) (by omega) hw (by rw [mDSts_0, ed1, enk1]; rfl) hS ls (lv_sub hl [0, 1] rfl)
      · have hltk1 : k1 < 9 := ge_f hk1 (by omega) rfl c_17
        refine lv_aload_n hx hb dX7_digest_20 rfl (lv_at hl 1 rfl) ?_
        refine lv_aload_n hx hb dX7_digest_21 rfl (lv_at hl 1 rfl) ?_
        refine lv_iload_n hx hb dX7_digest_22 rfl (lv_at hl 0 rfl) ?_
        refine kc_ui (kr_V (As := [.int (nI k1)]) (rest := [.ref (md 0)]) hx hb hml hown hG (c_X7_manyNow l D cy md (thr N 0) co d1 hA ns nt nr hL hN.thr (nI k1) (vp_in_nI (n := k1) hltk1 (by decide)) _) cf_X7_manyNow wM_X7_217 hw.o rfl ⟨hw, rfl⟩ ⟨rfl, rfl, by decide, by decide⟩ rfl rfl (Nat.le_of_ble_eq_true rfl) ⟨(show cs + 1 ≤ 51 by omega), (show sl + 9 ≤ 669 by omega)⟩ dX7_digest_23) hS (fun q h => h.elim Or.inl (fun h => Or.inr (Nat.le_trans (hz ▸ hS.1) h))) (fun r_23 H1 locs hp1 z1 oq1 hS => ?_)
        obtain ⟨e9, hw⟩ := hp1
        subst e9
        refine kc_uv (kr_V (As := [.int (mMany (thr N 0) ns nr (nI k1).toNatClampNeg)]) (rest := []) hx hb hml hown hG (c_X7_add l D cy md (thr N 0) co d1 hA (mMany (thr N 0) ns nr (nI k1).toNatClampNeg)) cf_X7_add wM_X7_233 hw.o rfl hw ⟨rfl, rfl, by decide, by decide⟩ rfl rfl (Nat.le_of_ble_eq_true rfl) ⟨(show (cs + 1) + 0 ≤ 51 by omega), (show (sl + 9) + 0 ≤ 669 by omega)⟩ dX7_digest_26) hS (fun _ h => Or.inl h) (fun H1 locs hp1 z1 oq1 hS => ?_)
        have hw := hp1
        refine lv_iinc (v := (nI (k1 + 1))) (lv' := [(1, .int (nI (k1 + 1))), (0, .ref (md 0))]) hx hb dX7_digest_29 hl (k := 0) rfl ((nI_succ k1).symm) (by decide) rfl (fun ls hl => ?_)
        have hml : c.maxLocals = ls.size := hml9.trans hl.1.symm
        refine lv_goto (tgt := 14) hx hb dX7_digest_32 (by decide) ?_
        exact ih9 (k1 + 1) _ _ _ _ _ (by omega) hltk1 (by omega) (by omega) hw (by rw [ed1, pFold_s _ k1 _]) hS ls (lv_sub hl [0, 1] rfl)
  exact lp14_1 (9 + 1) 0 _ _ _ _ _ (Nat.le_refl _) (Nat.zero_le _) (by omega) (by omega) hw (by rw [pFold_0]) hS ls (lv_sub hl [0, 1] rfl)
