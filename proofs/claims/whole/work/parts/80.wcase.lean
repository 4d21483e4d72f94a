-- the law's cases: class and model are asked the same
set_option maxHeartbeats 4000000 in
set_option maxRecDepth 100000 in
theorem law_star (l : Launch) (hlf : l.stackTraces = false) {D : va_G} {cy : Nat → ClassId} {p : Program} {e : Env} {s : State} {m : MethodId} {args : Array Value} {below : List Frame} {meth : Method} {c : Code} {b L : Nat} {xs : Nat → Int32} (hC : LC D cy p s m meth c b L xs) (hL3 : L ≤ 3072) {Q : State → Prop} {n w x m0 o1 o2 : Nat} {H : Heap} {locs : List Loc} {cells slots : Nat} {ls : Array Slot} (hI : LI D cy s.heap.size x m0 o1 o2 n H) (hn : n < 512) (hw6 : w + 6 ≤ L) (hS : va_S (fun q => s.heap.size ≤ q) s.heap H locs) (hc : cells + 51 ≤ 601024) (hs : slots + 669 ≤ 7293034) (hl : lv_has ls 9 [(0, .ref b), (1, .ref x), (2, .ref m0), (3, .ref o1), (4, .ref o2), (5, .int (nI w))])
    (kk : ∀ (H1 : Heap) (locs1 : List Loc) (ls1 : Array Slot), LI D cy s.heap.size x m0 o1 o2 (n + 1) H1 → va_S (fun q => s.heap.size ≤ q) s.heap H1 locs1 → lv_has ls1 9 [(0, .ref b), (1, .ref x), (2, .ref m0), (3, .ref o1), (4, .ref o2), (5, .int (nI w))] → W p l e room_1 s m args below meth c H1 locs1 (cells + 51) (slots + 669) Q (F0 m 1986 ls1 [])) :
    W p l e room_1 s m args below meth c H locs cells slots Q (F0 m 164 ls []) := by
  obtain ⟨⟨hx, hb, hml9, hown⟩, ⟨hG, hX, hGz, hAW, hN⟩, hXs, hbl⟩ := hC
  obtain ⟨ep, ns, nt, nr, M, N, V, co, su, ad, md, f1, f2, hR, hA, hM, hJ, hcw, hmw, hol, hod, rfl, rfl⟩ := hI
  have hbA : ¬ (fun q => s.heap.size ≤ q) b := Nat.not_le.mpr hbl
  have hL := hR.1.1
  have hL8 := hL.1
  have hLt := hL.2.1
  have hLr := hL.2.2
  have hMN := hR.2.1.2.2.1
  have hml : c.maxLocals = ls.size := hml9.trans hl.1.symm
  have hz : s.heap.size ≤ H.size := hS.1
  obtain ⟨hJ1, hJ2, hJ3, hJ4, hJ5⟩ := id hJ
  have hep : ep < 2 ^ 31 := by have := hR.1.2; omega
  have hmlt := MA.lt hmw
  have hclt := CA.lt hcw hL
  have ho1 : o1 < H.size := (hol 0 _ rfl).lt
  have ho2 : o2 < H.size := (hod 0 _ rfl).lt
  refine lv_aload_n hx hb dL_law_164 rfl (lv_at hl 1 rfl) ?_
  refine k_arg (j := 1) (kv := 1) hx hb hXs hbl hbA hS (lv_at hl 0 rfl) (lv_at hl 5 rfl) (by omega) (by omega) (by decide) (by decide) dL_law_165 dL_law_166 dL_law_168 dL_law_169 dL_law_170 rfl ?_
  refine k_arg (j := 2) (kv := 2) hx hb hXs hbl hbA hS (lv_at hl 0 rfl) (lv_at hl 5 rfl) (by omega) (by omega) (by decide) (by decide) dL_law_171 dL_law_172 dL_law_174 dL_law_175 dL_law_176 rfl ?_
  refine k_arg (j := 3) (kv := 3) hx hb hXs hbl hbA hS (lv_at hl 0 rfl) (lv_at hl 5 rfl) (by omega) (by omega) (by decide) (by decide) dL_law_177 dL_law_178 dL_law_180 dL_law_181 dL_law_182 rfl ?_
  refine k_arg (j := 4) (kv := 4) hx hb hXs hbl hbA hS (lv_at hl 0 rfl) (lv_at hl 5 rfl) (by omega) (by omega) (by decide) (by decide) dL_law_183 dL_law_184 dL_law_186 dL_law_187 dL_law_188 rfl ?_
  refine k_arg (j := 5) (kv := 5) hx hb hXs hbl hbA hS (lv_at hl 0 rfl) (lv_at hl 5 rfl) (by omega) (by omega) (by decide) (by decide) dL_law_189 dL_law_190 dL_law_192 dL_law_193 dL_law_194 rfl ?_
  refine lv_aload_n hx hb dL_law_195 rfl (lv_at hl 3 rfl) ?_
  refine kc_ui (kx_SW (As := [.ref (ad 0), .int (xs (w + 1)), .int (xs (w + 2)), .int (xs (w + 3)), .int (xs (w + 4)), .int (xs (w + 5)), .ref o1]) (rest := []) hx hb hml hown hG (c_L_star l hlf D cy ad ns nt nr hL M V hA (xs (w + 1)) (xs (w + 2)) (xs (w + 3)) (xs (w + 4)) (xs (w + 5)) H.size o1 f1 (fun h => (hJ1 o1 h).2.2.1 rfl)) cfL_star wM_L_101 (PL.preS hG hX (hGz.at hS) hAW hN ⟨⟨hcw, hol⟩, rfl⟩) ⟨rfl, rfl, Nat.le_of_ble_eq_true rfl, Nat.le_of_ble_eq_true rfl⟩ rfl rfl (Nat.le_of_ble_eq_true rfl) ⟨show cells + 1 ≤ 601024 by omega, show slots + 11 ≤ 7293034 by omega⟩ dL_law_196) hS (fun q h => h.elim (fun h => h.elim (fun h => (hJ1 q h).1) (fun h => Nat.le_trans hJ3 (Nat.le_of_eq h.symm))) (fun h => Nat.le_trans hz h)) (fun kc H1 locs hp1 z1 oq1 hS => ?_)
  obtain ⟨ek, g9, hol, hcl⟩ := hp1
  have hmw := hmw.keep oq1 (fun q hq h => h.elim (fun h => h.elim (fun h => (hJ1 q h).2.1 hq) (fun h => (hJ2 q hq).2.1 h)) (fun h => absurd (hmlt q hq) (Nat.not_lt.mpr h)))
  have hod : oD D cy o2 f2 H1 := kP_keepA hod oq1 (fun h => h.elim (fun h => h.elim (fun h => (hJ1 o2 h).2.2.2 rfl) (fun h => hJ5 h.symm)) (fun h => absurd ho2 (Nat.not_lt.mpr h)))
  refine lv_istore (lv' := [(6, .int kc), (0, .ref b), (1, .ref (ad 0)), (2, .ref (md 0)), (3, .ref o1), (4, .ref o2), (5, .int (nI w))]) hx hb dL_law_199 hl (by decide) rfl (fun ls hl => ?_)
  have hml : c.maxLocals = ls.size := hml9.trans hl.1.symm
  refine lv_aload_n hx hb dL_law_201 rfl (lv_at hl 3 rfl) ?_
  refine k_arg (j := 1) (kv := 1) hx hb hXs hbl hbA hS (lv_at hl 1 rfl) (lv_at hl 6 rfl) (by omega) (by omega) (by decide) (by decide) dL_law_202 dL_law_203 dL_law_205 dL_law_206 dL_law_207 rfl ?_
  refine k_arg (j := 2) (kv := 2) hx hb hXs hbl hbA hS (lv_at hl 1 rfl) (lv_at hl 6 rfl) (by omega) (by omega) (by decide) (by decide) dL_law_208 dL_law_209 dL_law_211 dL_law_212 dL_law_213 rfl ?_
  refine k_arg (j := 3) (kv := 3) hx hb hXs hbl hbA hS (lv_at hl 1 rfl) (lv_at hl 6 rfl) (by omega) (by omega) (by decide) (by decide) dL_law_214 dL_law_215 dL_law_217 dL_law_218 dL_law_219 rfl ?_
  refine k_arg (j := 4) (kv := 4) hx hb hXs hbl hbA hS (lv_at hl 1 rfl) (lv_at hl 6 rfl) (by omega) (by omega) (by decide) (by decide) dL_law_220 dL_law_221 dL_law_223 dL_law_224 dL_law_225 rfl ?_
  refine k_arg (j := 5) (kv := 5) hx hb hXs hbl hbA hS (lv_at hl 1 rfl) (lv_at hl 6 rfl) (by omega) (by omega) (by decide) (by decide) dL_law_226 dL_law_227 dL_law_229 dL_law_230 dL_law_231 rfl ?_
  refine kc_ui (kr_V (As := [.int (xs (w + 1)), .int (xs (w + 2)), .int (xs (w + 3)), .int (xs (w + 4)), .int (xs (w + 5))]) (rest := []) hx hb hml hown hG (c_X7_star l D cy md N co su hM ns nt nr hL hMN (xs (w + 1)) (xs (w + 2)) (xs (w + 3)) (xs (w + 4)) (xs (w + 5))) cf_X7_star wM_L_106 hmw.o rfl hmw ⟨rfl, rfl, Nat.le_of_ble_eq_true rfl, Nat.le_of_ble_eq_true rfl⟩ rfl rfl (Nat.le_of_ble_eq_true rfl) ⟨show cells + 1 + 0 ≤ 601024 by omega, show slots + 11 + 0 ≤ 7293034 by omega⟩ dL_law_232) hS (fun q h => (hJ2 q h).1) (fun r7 H2 locs hp2 z2 oq2 hS => ?_)
  have hol : oL D cy o1 g9 H2 := kP_keepA hol oq2 (fun h => (hJ2 o1 h).2.1 rfl)
  have hod : oD D cy o2 f2 H2 := kP_keepA hod oq2 (fun h => (hJ2 o2 h).2.2 rfl)
  refine lv_istore (lv' := [(7, .int r7), (6, .int kc), (0, .ref b), (1, .ref (ad 0)), (2, .ref (md 0)), (3, .ref o1), (4, .ref o2), (5, .int (nI w))]) hx hb dL_law_235 hl (by decide) rfl (fun ls hl => ?_)
  rcases hcl with ⟨hk, hcw⟩ | ⟨r, hf0, hk, y1, y2, hcw⟩
  · have hcw := hcw.keep oq2 (fun q hq h => (hJ1 q hq).2.1 h)
    rcases hp2 with ⟨k1, hmw⟩ | ⟨k1, hmw⟩ | ⟨k1, -⟩
    · exact k_tail (t := 237) (l := l) hx hb hml9 hown hG dL_law_237 dL_law_238 dL_law_241 dL_law_243 dL_law_248 dL_law_250 dL_law_253 dL_law_254 dL_law_255 dL_law_256 dL_law_258 dL_law_259 dL_law_260 dL_law_265 (by decide) hl hmw (show thr N 1 0 0 = kc from k1.symm.trans ((rfl).trans ek.symm)) hol (fun q => absurd (ek.symm.trans q) hk) (by omega) (by omega) ⟨hc, hs⟩ (fun ls1 hl1 => kk _ _ _ (LI.mk ((hR.no 1).next hn) hA hM hJ hcw hmw hol hod rfl) hS hl1)
    · exact k_tail (t := 237) (l := l) hx hb hml9 hown hG dL_law_237 dL_law_238 dL_law_241 dL_law_243 dL_law_248 dL_law_250 dL_law_253 dL_law_254 dL_law_255 dL_law_256 dL_law_258 dL_law_259 dL_law_260 dL_law_265 (by decide) hl hmw (show thr N 2 0 0 = kc from k1.symm.trans ((rfl).trans ek.symm)) hol (fun q => absurd (ek.symm.trans q) hk) (by omega) (by omega) ⟨hc, hs⟩ (fun ls1 hl1 => kk _ _ _ (LI.mk ((hR.no 2).next hn) hA hM hJ hcw hmw hol hod rfl) hS hl1)
    · exact absurd ((rfl).symm.trans k1) hk
  · have hcw := hcw.keep oq2 (fun q hq h => (CA.addSt hq).elim (fun hq => (hJ1 q hq).2.1 h) (fun hq => absurd (hmlt q h) (Nat.not_lt.mpr hq)))
    rcases hp2 with ⟨k1, -⟩ | ⟨k1, -⟩ | ⟨k1, p1, p2, hmw⟩
    · exact absurd (k1.symm.trans ((rfl).trans hk)) (show ¬ (1 : Int32) = 0 by decide)
    · exact absurd (k1.symm.trans ((rfl).trans hk)) (show ¬ (2 : Int32) = 0 by decide)
    · have hq := S_star (hR.no 0) hn hk y1
      exact k_tail (t := 237) (l := l) hx hb hml9 hown hG dL_law_237 dL_law_238 dL_law_241 dL_law_243 dL_law_248 dL_law_250 dL_law_253 dL_law_254 dL_law_255 dL_law_256 dL_law_258 dL_law_259 dL_law_260 dL_law_265 (by decide) hl hmw ((hk.symm.trans ek.symm)) hol (fun _ => by rw [hf0, y2, p2]) (by omega) (by omega) ⟨hc, hs⟩ (fun ls1 hl1 => kk _ _ _ (LI.mk hq (AI.addSt hA y1 hclt) hM (hJ.grow hmlt ho1 ho2 hz (fun q hq => CA.addSt hq)) hcw hmw hol hod (adA_n (by omega))) hS hl1)
set_option maxHeartbeats 4000000 in
set_option maxRecDepth 100000 in
theorem law_push (l : Launch) (hlf : l.stackTraces = false) {D : va_G} {cy : Nat → ClassId} {p : Program} {e : Env} {s : State} {m : MethodId} {args : Array Value} {below : List Frame} {meth : Method} {c : Code} {b L : Nat} {xs : Nat → Int32} (hC : LC D cy p s m meth c b L xs) (hL3 : L ≤ 3072) {Q : State → Prop} {n w x m0 o1 o2 : Nat} {H : Heap} {locs : List Loc} {cells slots : Nat} {ls : Array Slot} (hI : LI D cy s.heap.size x m0 o1 o2 n H) (hn : n < 512) (hw6 : w + 6 ≤ L) (hS : va_S (fun q => s.heap.size ≤ q) s.heap H locs) (hc : cells + 51 ≤ 601024) (hs : slots + 669 ≤ 7293034) (hl : lv_has ls 9 [(0, .ref b), (1, .ref x), (2, .ref m0), (3, .ref o1), (4, .ref o2), (5, .int (nI w))])
    (kk : ∀ (H1 : Heap) (locs1 : List Loc) (ls1 : Array Slot), LI D cy s.heap.size x m0 o1 o2 (n + 1) H1 → va_S (fun q => s.heap.size ≤ q) s.heap H1 locs1 → lv_has ls1 9 [(0, .ref b), (1, .ref x), (2, .ref m0), (3, .ref o1), (4, .ref o2), (5, .int (nI w))] → W p l e room_1 s m args below meth c H1 locs1 (cells + 51) (slots + 669) Q (F0 m 1986 ls1 [])) :
    W p l e room_1 s m args below meth c H locs cells slots Q (F0 m 268 ls []) := by
  obtain ⟨⟨hx, hb, hml9, hown⟩, ⟨hG, hX, hGz, hAW, hN⟩, hXs, hbl⟩ := hC
  obtain ⟨ep, ns, nt, nr, M, N, V, co, su, ad, md, f1, f2, hR, hA, hM, hJ, hcw, hmw, hol, hod, rfl, rfl⟩ := hI
  have hbA : ¬ (fun q => s.heap.size ≤ q) b := Nat.not_le.mpr hbl
  have hL := hR.1.1
  have hL8 := hL.1
  have hLt := hL.2.1
  have hLr := hL.2.2
  have hMN := hR.2.1.2.2.1
  have hml : c.maxLocals = ls.size := hml9.trans hl.1.symm
  have hz : s.heap.size ≤ H.size := hS.1
  obtain ⟨hJ1, hJ2, hJ3, hJ4, hJ5⟩ := id hJ
  have hep : ep < 2 ^ 31 := by have := hR.1.2; omega
  have hmlt := MA.lt hmw
  have hclt := CA.lt hcw hL
  have ho1 : o1 < H.size := (hol 0 _ rfl).lt
  have ho2 : o2 < H.size := (hod 0 _ rfl).lt
  refine lv_aload_n hx hb dL_law_268 rfl (lv_at hl 1 rfl) ?_
  refine k_arg (j := 1) (kv := 1) hx hb hXs hbl hbA hS (lv_at hl 0 rfl) (lv_at hl 5 rfl) (by omega) (by omega) (by decide) (by decide) dL_law_269 dL_law_270 dL_law_272 dL_law_273 dL_law_274 rfl ?_
  refine k_arg (j := 2) (kv := 2) hx hb hXs hbl hbA hS (lv_at hl 0 rfl) (lv_at hl 5 rfl) (by omega) (by omega) (by decide) (by decide) dL_law_275 dL_law_276 dL_law_278 dL_law_279 dL_law_280 rfl ?_
  refine lv_aload_n hx hb dL_law_281 rfl (lv_at hl 3 rfl) ?_
  refine kc_ui (kx_SW (As := [.ref (ad 0), .int (xs (w + 1)), .int (xs (w + 2)), .ref o1]) (rest := []) hx hb hml hown hG (c_L_push l hlf D cy ad ns nt nr hL M V hA (xs (w + 1)) (xs (w + 2)) o1 f1 (fun h => (hJ1 o1 h).2.2.1 rfl)) cfL_push wM_L_111 (PL.preS hG hX (hGz.at hS) hAW hN ⟨hcw, hol⟩) ⟨rfl, rfl, Nat.le_of_ble_eq_true rfl, Nat.le_of_ble_eq_true rfl⟩ rfl rfl (Nat.le_of_ble_eq_true rfl) ⟨show cells + 1 ≤ 601024 by omega, show slots + 6 ≤ 7293034 by omega⟩ dL_law_282) hS (fun q h => h.elim (fun h => (hJ1 q h).1) (fun h => Nat.le_trans hJ3 (Nat.le_of_eq h.symm))) (fun kc H1 locs hp1 z1 oq1 hS => ?_)
  obtain ⟨ek, g9, hol, hcl⟩ := hp1
  have hmw := hmw.keep oq1 (fun q hq h => h.elim (fun h => (hJ1 q h).2.1 hq) (fun h => (hJ2 q hq).2.1 h))
  have hod : oD D cy o2 f2 H1 := kP_keepA hod oq1 (fun h => h.elim (fun h => (hJ1 o2 h).2.2.2 rfl) (fun h => hJ5 h.symm))
  refine lv_istore (lv' := [(6, .int kc), (0, .ref b), (1, .ref (ad 0)), (2, .ref (md 0)), (3, .ref o1), (4, .ref o2), (5, .int (nI w))]) hx hb dL_law_285 hl (by decide) rfl (fun ls hl => ?_)
  have hml : c.maxLocals = ls.size := hml9.trans hl.1.symm
  refine lv_aload_n hx hb dL_law_287 rfl (lv_at hl 3 rfl) ?_
  refine k_arg (j := 1) (kv := 1) hx hb hXs hbl hbA hS (lv_at hl 1 rfl) (lv_at hl 6 rfl) (by omega) (by omega) (by decide) (by decide) dL_law_288 dL_law_289 dL_law_291 dL_law_292 dL_law_293 rfl ?_
  refine k_arg (j := 2) (kv := 2) hx hb hXs hbl hbA hS (lv_at hl 1 rfl) (lv_at hl 6 rfl) (by omega) (by omega) (by decide) (by decide) dL_law_294 dL_law_295 dL_law_297 dL_law_298 dL_law_299 rfl ?_
  refine kc_ui (kr_V (As := [.int (xs (w + 1)), .int (xs (w + 2))]) (rest := []) hx hb hml hown hG (c_X7_push l D cy md N co su hM ns nt nr hL hMN (xs (w + 1)) (xs (w + 2))) cf_X7_push wM_L_114 hmw.o rfl hmw ⟨rfl, rfl, Nat.le_of_ble_eq_true rfl, Nat.le_of_ble_eq_true rfl⟩ rfl rfl (Nat.le_of_ble_eq_true rfl) ⟨show cells + 1 + 0 ≤ 601024 by omega, show slots + 6 + 0 ≤ 7293034 by omega⟩ dL_law_300) hS (fun q h => (hJ2 q h).1) (fun r7 H2 locs hp2 z2 oq2 hS => ?_)
  have hol : oL D cy o1 g9 H2 := kP_keepA hol oq2 (fun h => (hJ2 o1 h).2.1 rfl)
  have hod : oD D cy o2 f2 H2 := kP_keepA hod oq2 (fun h => (hJ2 o2 h).2.2 rfl)
  refine lv_istore (lv' := [(7, .int r7), (6, .int kc), (0, .ref b), (1, .ref (ad 0)), (2, .ref (md 0)), (3, .ref o1), (4, .ref o2), (5, .int (nI w))]) hx hb dL_law_303 hl (by decide) rfl (fun ls hl => ?_)
  rcases hcl with ⟨hk, hcw⟩ | ⟨r, hf0, hk, i, hi, ei, er, hcw⟩
  · have hcw := hcw.keep oq2 (fun q hq h => (hJ1 q hq).2.1 h)
    rcases hp2 with ⟨k1, hmw⟩ | ⟨k1, hmw⟩ | ⟨k1, -⟩
    · exact k_tail (t := 305) (l := l) hx hb hml9 hown hG dL_law_305 dL_law_306 dL_law_309 dL_law_311 dL_law_316 dL_law_318 dL_law_321 dL_law_322 dL_law_323 dL_law_324 dL_law_326 dL_law_327 dL_law_328 dL_law_333 (by decide) hl hmw (show thr N 1 0 0 = kc from k1.symm.trans ((rfl).trans ek.symm)) hol (fun q => absurd (ek.symm.trans q) hk) (by omega) (by omega) ⟨hc, hs⟩ (fun ls1 hl1 => kk _ _ _ (LI.mk ((hR.no 1).next hn) hA hM hJ hcw hmw hol hod rfl) hS hl1)
    · exact k_tail (t := 305) (l := l) hx hb hml9 hown hG dL_law_305 dL_law_306 dL_law_309 dL_law_311 dL_law_316 dL_law_318 dL_law_321 dL_law_322 dL_law_323 dL_law_324 dL_law_326 dL_law_327 dL_law_328 dL_law_333 (by decide) hl hmw (show thr N 2 0 0 = kc from k1.symm.trans ((rfl).trans ek.symm)) hol (fun q => absurd (ek.symm.trans q) hk) (by omega) (by omega) ⟨hc, hs⟩ (fun ls1 hl1 => kk _ _ _ (LI.mk ((hR.no 2).next hn) hA hM hJ hcw hmw hol hod rfl) hS hl1)
    · exact absurd ((rfl).symm.trans k1) hk
  · have hcw := hcw.keep oq2 (fun q hq h => (hJ1 q hq).2.1 h)
    rcases hp2 with ⟨k1, -⟩ | ⟨k1, -⟩ | ⟨k1, i2, hi2, ei2, er2, hmw⟩
    · exact absurd (k1.symm.trans ((rfl).trans hk)) (show ¬ (1 : Int32) = 0 by decide)
    · exact absurd (k1.symm.trans ((rfl).trans hk)) (show ¬ (2 : Int32) = 0 by decide)
    · obtain rfl : i2 = i := (nI_eq (by omega) (by omega)).mp (ei2.symm.trans ei)
      have hq := S_push (b := (xs (w + 2))) (hR.no 0) hn hi
      exact k_tail (t := 305) (l := l) hx hb hml9 hown hG dL_law_305 dL_law_306 dL_law_309 dL_law_311 dL_law_316 dL_law_318 dL_law_321 dL_law_322 dL_law_323 dL_law_324 dL_law_326 dL_law_327 dL_law_328 dL_law_333 (by decide) hl hmw (by rw [mset_n (by omega)]; exact hk.symm.trans ek.symm) hol (fun _ => by rw [hf0, er, er2, hq.1]) (by omega) (by omega) ⟨hc, hs⟩ (fun ls1 hl1 => kk _ _ _ (LI.mk hq.2 hA hM hJ hcw hmw hol hod rfl) hS hl1)
set_option maxHeartbeats 4000000 in
set_option maxRecDepth 100000 in
theorem law_jump (l : Launch) (hlf : l.stackTraces = false) {D : va_G} {cy : Nat → ClassId} {p : Program} {e : Env} {s : State} {m : MethodId} {args : Array Value} {below : List Frame} {meth : Method} {c : Code} {b L : Nat} {xs : Nat → Int32} (hC : LC D cy p s m meth c b L xs) (hL3 : L ≤ 3072) {Q : State → Prop} {n w x m0 o1 o2 : Nat} {H : Heap} {locs : List Loc} {cells slots : Nat} {ls : Array Slot} (hI : LI D cy s.heap.size x m0 o1 o2 n H) (hn : n < 512) (hw6 : w + 6 ≤ L) (hS : va_S (fun q => s.heap.size ≤ q) s.heap H locs) (hc : cells + 51 ≤ 601024) (hs : slots + 669 ≤ 7293034) (hl : lv_has ls 9 [(0, .ref b), (1, .ref x), (2, .ref m0), (3, .ref o1), (4, .ref o2), (5, .int (nI w))])
    (kk : ∀ (H1 : Heap) (locs1 : List Loc) (ls1 : Array Slot), LI D cy s.heap.size x m0 o1 o2 (n + 1) H1 → va_S (fun q => s.heap.size ≤ q) s.heap H1 locs1 → lv_has ls1 9 [(0, .ref b), (1, .ref x), (2, .ref m0), (3, .ref o1), (4, .ref o2), (5, .int (nI w))] → W p l e room_1 s m args below meth c H1 locs1 (cells + 51) (slots + 669) Q (F0 m 1986 ls1 [])) :
    W p l e room_1 s m args below meth c H locs cells slots Q (F0 m 336 ls []) := by
  obtain ⟨⟨hx, hb, hml9, hown⟩, ⟨hG, hX, hGz, hAW, hN⟩, hXs, hbl⟩ := hC
  obtain ⟨ep, ns, nt, nr, M, N, V, co, su, ad, md, f1, f2, hR, hA, hM, hJ, hcw, hmw, hol, hod, rfl, rfl⟩ := hI
  have hbA : ¬ (fun q => s.heap.size ≤ q) b := Nat.not_le.mpr hbl
  have hL := hR.1.1
  have hL8 := hL.1
  have hLt := hL.2.1
  have hLr := hL.2.2
  have hMN := hR.2.1.2.2.1
  have hml : c.maxLocals = ls.size := hml9.trans hl.1.symm
  have hz : s.heap.size ≤ H.size := hS.1
  obtain ⟨hJ1, hJ2, hJ3, hJ4, hJ5⟩ := id hJ
  have hep : ep < 2 ^ 31 := by have := hR.1.2; omega
  have hmlt := MA.lt hmw
  have hclt := CA.lt hcw hL
  have ho1 : o1 < H.size := (hol 0 _ rfl).lt
  have ho2 : o2 < H.size := (hod 0 _ rfl).lt
  refine lv_aload_n hx hb dL_law_336 rfl (lv_at hl 1 rfl) ?_
  refine k_arg (j := 1) (kv := 1) hx hb hXs hbl hbA hS (lv_at hl 0 rfl) (lv_at hl 5 rfl) (by omega) (by omega) (by decide) (by decide) dL_law_337 dL_law_338 dL_law_340 dL_law_341 dL_law_342 rfl ?_
  refine k_arg (j := 2) (kv := 2) hx hb hXs hbl hbA hS (lv_at hl 0 rfl) (lv_at hl 5 rfl) (by omega) (by omega) (by decide) (by decide) dL_law_343 dL_law_344 dL_law_346 dL_law_347 dL_law_348 rfl ?_
  refine k_arg (j := 3) (kv := 3) hx hb hXs hbl hbA hS (lv_at hl 0 rfl) (lv_at hl 5 rfl) (by omega) (by omega) (by decide) (by decide) dL_law_349 dL_law_350 dL_law_352 dL_law_353 dL_law_354 rfl ?_
  refine lv_aload_n hx hb dL_law_355 rfl (lv_at hl 3 rfl) ?_
  refine kc_ui (kx_SW (As := [.ref (ad 0), .int (xs (w + 1)), .int (xs (w + 2)), .int (xs (w + 3)), .ref o1]) (rest := []) hx hb hml hown hG (c_L_jump l hlf D cy ad ns nt nr hL M V hA (xs (w + 1)) (xs (w + 2)) (xs (w + 3)) o1 f1 (fun h => (hJ1 o1 h).2.2.1 rfl)) cfL_jump wM_L_115 (PL.preS hG hX (hGz.at hS) hAW hN ⟨hcw, hol⟩) ⟨rfl, rfl, Nat.le_of_ble_eq_true rfl, Nat.le_of_ble_eq_true rfl⟩ rfl rfl (Nat.le_of_ble_eq_true rfl) ⟨show cells + 1 ≤ 601024 by omega, show slots + 6 ≤ 7293034 by omega⟩ dL_law_356) hS (fun q h => h.elim (fun h => (hJ1 q h).1) (fun h => Nat.le_trans hJ3 (Nat.le_of_eq h.symm))) (fun kc H1 locs hp1 z1 oq1 hS => ?_)
  obtain ⟨ek, g9, hol, hcl⟩ := hp1
  have hmw := hmw.keep oq1 (fun q hq h => h.elim (fun h => (hJ1 q h).2.1 hq) (fun h => (hJ2 q hq).2.1 h))
  have hod : oD D cy o2 f2 H1 := kP_keepA hod oq1 (fun h => h.elim (fun h => (hJ1 o2 h).2.2.2 rfl) (fun h => hJ5 h.symm))
  refine lv_istore (lv' := [(6, .int kc), (0, .ref b), (1, .ref (ad 0)), (2, .ref (md 0)), (3, .ref o1), (4, .ref o2), (5, .int (nI w))]) hx hb dL_law_359 hl (by decide) rfl (fun ls hl => ?_)
  have hml : c.maxLocals = ls.size := hml9.trans hl.1.symm
  refine lv_aload_n hx hb dL_law_361 rfl (lv_at hl 3 rfl) ?_
  refine k_arg (j := 1) (kv := 1) hx hb hXs hbl hbA hS (lv_at hl 1 rfl) (lv_at hl 6 rfl) (by omega) (by omega) (by decide) (by decide) dL_law_362 dL_law_363 dL_law_365 dL_law_366 dL_law_367 rfl ?_
  refine k_arg (j := 2) (kv := 2) hx hb hXs hbl hbA hS (lv_at hl 1 rfl) (lv_at hl 6 rfl) (by omega) (by omega) (by decide) (by decide) dL_law_368 dL_law_369 dL_law_371 dL_law_372 dL_law_373 rfl ?_
  refine k_arg (j := 3) (kv := 3) hx hb hXs hbl hbA hS (lv_at hl 1 rfl) (lv_at hl 6 rfl) (by omega) (by omega) (by decide) (by decide) dL_law_374 dL_law_375 dL_law_377 dL_law_378 dL_law_379 rfl ?_
  refine kc_ui (kr_V (As := [.int (xs (w + 1)), .int (xs (w + 2)), .int (xs (w + 3))]) (rest := []) hx hb hml hown hG (c_X7_jump l D cy md N co su hM ns nt nr hL hMN (xs (w + 1)) (xs (w + 2)) (xs (w + 3))) cf_X7_jump wM_L_118 hmw.o rfl hmw ⟨rfl, rfl, Nat.le_of_ble_eq_true rfl, Nat.le_of_ble_eq_true rfl⟩ rfl rfl (Nat.le_of_ble_eq_true rfl) ⟨show cells + 1 + 0 ≤ 601024 by omega, show slots + 6 + 0 ≤ 7293034 by omega⟩ dL_law_380) hS (fun q h => (hJ2 q h).1) (fun r7 H2 locs hp2 z2 oq2 hS => ?_)
  have hol : oL D cy o1 g9 H2 := kP_keepA hol oq2 (fun h => (hJ2 o1 h).2.1 rfl)
  have hod : oD D cy o2 f2 H2 := kP_keepA hod oq2 (fun h => (hJ2 o2 h).2.2 rfl)
  refine lv_istore (lv' := [(7, .int r7), (6, .int kc), (0, .ref b), (1, .ref (ad 0)), (2, .ref (md 0)), (3, .ref o1), (4, .ref o2), (5, .int (nI w))]) hx hb dL_law_383 hl (by decide) rfl (fun ls hl => ?_)
  rcases hcl with ⟨hk, hcw⟩ | ⟨r, hf0, hk, i, hi, ei, er, hcw⟩
  · have hcw := hcw.keep oq2 (fun q hq h => (hJ1 q hq).2.1 h)
    rcases hp2 with ⟨k1, hmw⟩ | ⟨k1, hmw⟩ | ⟨k1, -⟩
    · exact k_tail (t := 385) (l := l) hx hb hml9 hown hG dL_law_385 dL_law_386 dL_law_389 dL_law_391 dL_law_396 dL_law_398 dL_law_401 dL_law_402 dL_law_403 dL_law_404 dL_law_406 dL_law_407 dL_law_408 dL_law_413 (by decide) hl hmw (show thr N 1 0 0 = kc from k1.symm.trans ((rfl).trans ek.symm)) hol (fun q => absurd (ek.symm.trans q) hk) (by omega) (by omega) ⟨hc, hs⟩ (fun ls1 hl1 => kk _ _ _ (LI.mk ((hR.no 1).next hn) hA hM hJ hcw hmw hol hod rfl) hS hl1)
    · exact k_tail (t := 385) (l := l) hx hb hml9 hown hG dL_law_385 dL_law_386 dL_law_389 dL_law_391 dL_law_396 dL_law_398 dL_law_401 dL_law_402 dL_law_403 dL_law_404 dL_law_406 dL_law_407 dL_law_408 dL_law_413 (by decide) hl hmw (show thr N 2 0 0 = kc from k1.symm.trans ((rfl).trans ek.symm)) hol (fun q => absurd (ek.symm.trans q) hk) (by omega) (by omega) ⟨hc, hs⟩ (fun ls1 hl1 => kk _ _ _ (LI.mk ((hR.no 2).next hn) hA hM hJ hcw hmw hol hod rfl) hS hl1)
    · exact absurd ((rfl).symm.trans k1) hk
  · have hcw := hcw.keep oq2 (fun q hq h => (hJ1 q hq).2.1 h)
    rcases hp2 with ⟨k1, -⟩ | ⟨k1, -⟩ | ⟨k1, i2, hi2, ei2, er2, hmw⟩
    · exact absurd (k1.symm.trans ((rfl).trans hk)) (show ¬ (1 : Int32) = 0 by decide)
    · exact absurd (k1.symm.trans ((rfl).trans hk)) (show ¬ (2 : Int32) = 0 by decide)
    · obtain rfl : i2 = i := (nI_eq (by omega) (by omega)).mp (ei2.symm.trans ei)
      have hq := S_jump (o := (xs (w + 2))) (d := (xs (w + 3))) (hR.no 0) hn hi
      exact k_tail (t := 385) (l := l) hx hb hml9 hown hG dL_law_385 dL_law_386 dL_law_389 dL_law_391 dL_law_396 dL_law_398 dL_law_401 dL_law_402 dL_law_403 dL_law_404 dL_law_406 dL_law_407 dL_law_408 dL_law_413 (by decide) hl hmw (by rw [mset_n (by omega)]; exact hk.symm.trans ek.symm) hol (fun _ => by rw [hf0, er, er2, hq.1]) (by omega) (by omega) ⟨hc, hs⟩ (fun ls1 hl1 => kk _ _ _ (LI.mk hq.2 hA hM hJ hcw hmw hol hod rfl) hS hl1)
set_option maxHeartbeats 4000000 in
set_option maxRecDepth 100000 in
theorem law_health (l : Launch) (hlf : l.stackTraces = false) {D : va_G} {cy : Nat → ClassId} {p : Program} {e : Env} {s : State} {m : MethodId} {args : Array Value} {below : List Frame} {meth : Method} {c : Code} {b L : Nat} {xs : Nat → Int32} (hC : LC D cy p s m meth c b L xs) (hL3 : L ≤ 3072) {Q : State → Prop} {n w x m0 o1 o2 : Nat} {H : Heap} {locs : List Loc} {cells slots : Nat} {ls : Array Slot} (hI : LI D cy s.heap.size x m0 o1 o2 n H) (hn : n < 512) (hw6 : w + 6 ≤ L) (hS : va_S (fun q => s.heap.size ≤ q) s.heap H locs) (hc : cells + 51 ≤ 601024) (hs : slots + 669 ≤ 7293034) (hl : lv_has ls 9 [(0, .ref b), (1, .ref x), (2, .ref m0), (3, .ref o1), (4, .ref o2), (5, .int (nI w))])
    (kk : ∀ (H1 : Heap) (locs1 : List Loc) (ls1 : Array Slot), LI D cy s.heap.size x m0 o1 o2 (n + 1) H1 → va_S (fun q => s.heap.size ≤ q) s.heap H1 locs1 → lv_has ls1 9 [(0, .ref b), (1, .ref x), (2, .ref m0), (3, .ref o1), (4, .ref o2), (5, .int (nI w))] → W p l e room_1 s m args below meth c H1 locs1 (cells + 51) (slots + 669) Q (F0 m 1986 ls1 [])) :
    W p l e room_1 s m args below meth c H locs cells slots Q (F0 m 416 ls []) := by
  obtain ⟨⟨hx, hb, hml9, hown⟩, ⟨hG, hX, hGz, hAW, hN⟩, hXs, hbl⟩ := hC
  obtain ⟨ep, ns, nt, nr, M, N, V, co, su, ad, md, f1, f2, hR, hA, hM, hJ, hcw, hmw, hol, hod, rfl, rfl⟩ := hI
  have hbA : ¬ (fun q => s.heap.size ≤ q) b := Nat.not_le.mpr hbl
  have hL := hR.1.1
  have hL8 := hL.1
  have hLt := hL.2.1
  have hLr := hL.2.2
  have hMN := hR.2.1.2.2.1
  have hml : c.maxLocals = ls.size := hml9.trans hl.1.symm
  have hz : s.heap.size ≤ H.size := hS.1
  obtain ⟨hJ1, hJ2, hJ3, hJ4, hJ5⟩ := id hJ
  have hep : ep < 2 ^ 31 := by have := hR.1.2; omega
  have hmlt := MA.lt hmw
  have hclt := CA.lt hcw hL
  have ho1 : o1 < H.size := (hol 0 _ rfl).lt
  have ho2 : o2 < H.size := (hod 0 _ rfl).lt
  refine lv_aload_n hx hb dL_law_416 rfl (lv_at hl 1 rfl) ?_
  refine k_arg (j := 1) (kv := 1) hx hb hXs hbl hbA hS (lv_at hl 0 rfl) (lv_at hl 5 rfl) (by omega) (by omega) (by decide) (by decide) dL_law_417 dL_law_418 dL_law_420 dL_law_421 dL_law_422 rfl ?_
  refine k_arg (j := 2) (kv := 2) hx hb hXs hbl hbA hS (lv_at hl 0 rfl) (lv_at hl 5 rfl) (by omega) (by omega) (by decide) (by decide) dL_law_423 dL_law_424 dL_law_426 dL_law_427 dL_law_428 rfl ?_
  refine k_b2i hx hb dL_law_429 dL_law_432 dL_law_433 dL_law_436 rfl ?_
  refine lv_aload_n hx hb dL_law_437 rfl (lv_at hl 3 rfl) ?_
  refine kc_ui (kx_SW (As := [.ref (ad 0), .int (xs (w + 1)), .int (bI (!(xs (w + 2) == 0))), .ref o1]) (rest := []) hx hb hml hown hG (c_L_health l hlf D cy ad ns nt nr hL M V hA (xs (w + 1)) (!(xs (w + 2) == 0)) (fun i hi => by
      rcases (hR.2.2.1 i hi).2.1 with z | z
      · exact ⟨false, z⟩
      · exact ⟨true, z⟩) o1 f1 (fun h => (hJ1 o1 h).2.2.1 rfl)) cfL_health wM_L_119 (PL.preS hG hX (hGz.at hS) hAW hN ⟨hcw, hol⟩) ⟨rfl, rfl, Nat.le_of_ble_eq_true rfl, Nat.le_of_ble_eq_true rfl⟩ rfl rfl (Nat.le_of_ble_eq_true rfl) ⟨show cells + 1 ≤ 601024 by omega, show slots + 6 ≤ 7293034 by omega⟩ dL_law_438) hS (fun q h => h.elim (fun h => (hJ1 q h).1) (fun h => Nat.le_trans hJ3 (Nat.le_of_eq h.symm))) (fun kc H1 locs hp1 z1 oq1 hS => ?_)
  obtain ⟨ek, g9, hol, hcl⟩ := hp1
  have hmw := hmw.keep oq1 (fun q hq h => h.elim (fun h => (hJ1 q h).2.1 hq) (fun h => (hJ2 q hq).2.1 h))
  have hod : oD D cy o2 f2 H1 := kP_keepA hod oq1 (fun h => h.elim (fun h => (hJ1 o2 h).2.2.2 rfl) (fun h => hJ5 h.symm))
  refine lv_istore (lv' := [(6, .int kc), (0, .ref b), (1, .ref (ad 0)), (2, .ref (md 0)), (3, .ref o1), (4, .ref o2), (5, .int (nI w))]) hx hb dL_law_441 hl (by decide) rfl (fun ls hl => ?_)
  have hml : c.maxLocals = ls.size := hml9.trans hl.1.symm
  refine lv_aload_n hx hb dL_law_443 rfl (lv_at hl 3 rfl) ?_
  refine k_arg (j := 1) (kv := 1) hx hb hXs hbl hbA hS (lv_at hl 1 rfl) (lv_at hl 6 rfl) (by omega) (by omega) (by decide) (by decide) dL_law_444 dL_law_445 dL_law_447 dL_law_448 dL_law_449 rfl ?_
  refine k_arg (j := 2) (kv := 2) hx hb hXs hbl hbA hS (lv_at hl 1 rfl) (lv_at hl 6 rfl) (by omega) (by omega) (by decide) (by decide) dL_law_450 dL_law_451 dL_law_453 dL_law_454 dL_law_455 rfl ?_
  refine k_b2i hx hb dL_law_456 dL_law_459 dL_law_460 dL_law_463 rfl ?_
  refine kc_ui (kr_V (As := [.int (xs (w + 1)), .int (bI (!(xs (w + 2) == 0)))]) (rest := []) hx hb hml hown hG (c_X7_health l D cy md N co su hM ns nt nr hL hMN (xs (w + 1)) (!(xs (w + 2) == 0))) cf_X7_health wM_L_122 hmw.o rfl hmw ⟨rfl, rfl, Nat.le_of_ble_eq_true rfl, Nat.le_of_ble_eq_true rfl⟩ rfl rfl (Nat.le_of_ble_eq_true rfl) ⟨show cells + 1 + 0 ≤ 601024 by omega, show slots + 6 + 0 ≤ 7293034 by omega⟩ dL_law_464) hS (fun q h => (hJ2 q h).1) (fun r7 H2 locs hp2 z2 oq2 hS => ?_)
  have hol : oL D cy o1 g9 H2 := kP_keepA hol oq2 (fun h => (hJ2 o1 h).2.1 rfl)
  have hod : oD D cy o2 f2 H2 := kP_keepA hod oq2 (fun h => (hJ2 o2 h).2.2 rfl)
  refine lv_istore (lv' := [(7, .int r7), (6, .int kc), (0, .ref b), (1, .ref (ad 0)), (2, .ref (md 0)), (3, .ref o1), (4, .ref o2), (5, .int (nI w))]) hx hb dL_law_467 hl (by decide) rfl (fun ls hl => ?_)
  rcases hcl with ⟨hk, hcw⟩ | ⟨r, hf0, hk, i, hi, ei, er, hcw⟩
  · have hcw := hcw.keep oq2 (fun q hq h => (hJ1 q hq).2.1 h)
    rcases hp2 with ⟨k1, hmw⟩ | ⟨k1, hmw⟩ | ⟨k1, -⟩
    · exact k_tailH (t := 469) (l := l) hx hb hml9 hown hG dL_law_469 dL_law_470 dL_law_473 dL_law_475 dL_law_480 dL_law_482 dL_law_485 dL_law_486 dL_law_487 dL_law_488 dL_law_490 dL_law_493 dL_law_494 dL_law_497 dL_law_498 dL_law_499 dL_law_504 (by decide) hl hmw (show thr N 1 0 0 = kc from k1.symm.trans ((rfl).trans ek.symm)) hol (fun q => absurd (ek.symm.trans q) hk) (by omega) (by omega) ⟨hc, hs⟩ (fun ls1 hl1 => kk _ _ _ (LI.mk ((hR.no 1).next hn) hA hM hJ hcw hmw hol hod rfl) hS hl1)
    · exact k_tailH (t := 469) (l := l) hx hb hml9 hown hG dL_law_469 dL_law_470 dL_law_473 dL_law_475 dL_law_480 dL_law_482 dL_law_485 dL_law_486 dL_law_487 dL_law_488 dL_law_490 dL_law_493 dL_law_494 dL_law_497 dL_law_498 dL_law_499 dL_law_504 (by decide) hl hmw (show thr N 2 0 0 = kc from k1.symm.trans ((rfl).trans ek.symm)) hol (fun q => absurd (ek.symm.trans q) hk) (by omega) (by omega) ⟨hc, hs⟩ (fun ls1 hl1 => kk _ _ _ (LI.mk ((hR.no 2).next hn) hA hM hJ hcw hmw hol hod rfl) hS hl1)
    · exact absurd ((rfl).symm.trans k1) hk
  · have hcw := hcw.keep oq2 (fun q hq h => (hJ1 q hq).2.1 h)
    rcases hp2 with ⟨k1, -⟩ | ⟨k1, -⟩ | ⟨k1, i2, hi2, ei2, er2, hmw⟩
    · exact absurd (k1.symm.trans ((rfl).trans hk)) (show ¬ (1 : Int32) = 0 by decide)
    · exact absurd (k1.symm.trans ((rfl).trans hk)) (show ¬ (2 : Int32) = 0 by decide)
    · obtain rfl : i2 = i := (nI_eq (by omega) (by omega)).mp (ei2.symm.trans ei)
      have hq := S_health (b := (!(xs (w + 2) == 0))) (hR.no 0) hn hi
      exact k_tailH (t := 469) (l := l) hx hb hml9 hown hG dL_law_469 dL_law_470 dL_law_473 dL_law_475 dL_law_480 dL_law_482 dL_law_485 dL_law_486 dL_law_487 dL_law_488 dL_law_490 dL_law_493 dL_law_494 dL_law_497 dL_law_498 dL_law_499 dL_law_504 (by decide) hl hmw (by rw [mset_n (by omega)]; exact hk.symm.trans ek.symm) hol (fun _ => by rw [hf0, er, er2, hq.1]) (by omega) (by omega) ⟨hc, hs⟩ (fun ls1 hl1 => kk _ _ _ (LI.mk hq.2 hA hM hJ hcw hmw hol hod rfl) hS hl1)
set_option maxHeartbeats 4000000 in
set_option maxRecDepth 100000 in
theorem law_station (l : Launch) (hlf : l.stackTraces = false) {D : va_G} {cy : Nat → ClassId} {p : Program} {e : Env} {s : State} {m : MethodId} {args : Array Value} {below : List Frame} {meth : Method} {c : Code} {b L : Nat} {xs : Nat → Int32} (hC : LC D cy p s m meth c b L xs) (hL3 : L ≤ 3072) {Q : State → Prop} {n w x m0 o1 o2 : Nat} {H : Heap} {locs : List Loc} {cells slots : Nat} {ls : Array Slot} (hI : LI D cy s.heap.size x m0 o1 o2 n H) (hn : n < 512) (hw6 : w + 6 ≤ L) (hS : va_S (fun q => s.heap.size ≤ q) s.heap H locs) (hc : cells + 51 ≤ 601024) (hs : slots + 669 ≤ 7293034) (hl : lv_has ls 9 [(0, .ref b), (1, .ref x), (2, .ref m0), (3, .ref o1), (4, .ref o2), (5, .int (nI w))])
    (kk : ∀ (H1 : Heap) (locs1 : List Loc) (ls1 : Array Slot), LI D cy s.heap.size x m0 o1 o2 (n + 1) H1 → va_S (fun q => s.heap.size ≤ q) s.heap H1 locs1 → lv_has ls1 9 [(0, .ref b), (1, .ref x), (2, .ref m0), (3, .ref o1), (4, .ref o2), (5, .int (nI w))] → W p l e room_1 s m args below meth c H1 locs1 (cells + 51) (slots + 669) Q (F0 m 1986 ls1 [])) :
    W p l e room_1 s m args below meth c H locs cells slots Q (F0 m 507 ls []) := by
  obtain ⟨⟨hx, hb, hml9, hown⟩, ⟨hG, hX, hGz, hAW, hN⟩, hXs, hbl⟩ := hC
  obtain ⟨ep, ns, nt, nr, M, N, V, co, su, ad, md, f1, f2, hR, hA, hM, hJ, hcw, hmw, hol, hod, rfl, rfl⟩ := hI
  have hbA : ¬ (fun q => s.heap.size ≤ q) b := Nat.not_le.mpr hbl
  have hL := hR.1.1
  have hL8 := hL.1
  have hLt := hL.2.1
  have hLr := hL.2.2
  have hMN := hR.2.1.2.2.1
  have hml : c.maxLocals = ls.size := hml9.trans hl.1.symm
  have hz : s.heap.size ≤ H.size := hS.1
  obtain ⟨hJ1, hJ2, hJ3, hJ4, hJ5⟩ := id hJ
  have hep : ep < 2 ^ 31 := by have := hR.1.2; omega
  have hmlt := MA.lt hmw
  have hclt := CA.lt hcw hL
  have ho1 : o1 < H.size := (hol 0 _ rfl).lt
  have ho2 : o2 < H.size := (hod 0 _ rfl).lt
  refine lv_aload_n hx hb dL_law_507 rfl (lv_at hl 1 rfl) ?_
  refine k_arg (j := 1) (kv := 1) hx hb hXs hbl hbA hS (lv_at hl 0 rfl) (lv_at hl 5 rfl) (by omega) (by omega) (by decide) (by decide) dL_law_508 dL_law_509 dL_law_511 dL_law_512 dL_law_513 rfl ?_
  refine k_arg (j := 2) (kv := 2) hx hb hXs hbl hbA hS (lv_at hl 0 rfl) (lv_at hl 5 rfl) (by omega) (by omega) (by decide) (by decide) dL_law_514 dL_law_515 dL_law_517 dL_law_518 dL_law_519 rfl ?_
  refine lv_aload_n hx hb dL_law_520 rfl (lv_at hl 3 rfl) ?_
  refine kc_ui (kx_SW (As := [.ref (ad 0), .int (xs (w + 1)), .int (xs (w + 2)), .ref o1]) (rest := []) hx hb hml hown hG (c_L_station l hlf D cy ad ns nt nr hL M V hA (xs (w + 1)) (xs (w + 2)) H.size o1 f1 (fun h => (hJ1 o1 h).2.2.1 rfl)) cfL_station wM_L_123 (PL.preS hG hX (hGz.at hS) hAW hN ⟨⟨hcw, hol⟩, rfl⟩) ⟨rfl, rfl, Nat.le_of_ble_eq_true rfl, Nat.le_of_ble_eq_true rfl⟩ rfl rfl (Nat.le_of_ble_eq_true rfl) ⟨show cells + 1 ≤ 601024 by omega, show slots + 6 ≤ 7293034 by omega⟩ dL_law_521) hS (fun q h => h.elim (fun h => h.elim (fun h => (hJ1 q h).1) (fun h => Nat.le_trans hJ3 (Nat.le_of_eq h.symm))) (fun h => Nat.le_trans hz h)) (fun kc H1 locs hp1 z1 oq1 hS => ?_)
  obtain ⟨ek, g9, hol, hcl⟩ := hp1
  have hmw := hmw.keep oq1 (fun q hq h => h.elim (fun h => h.elim (fun h => (hJ1 q h).2.1 hq) (fun h => (hJ2 q hq).2.1 h)) (fun h => absurd (hmlt q hq) (Nat.not_lt.mpr h)))
  have hod : oD D cy o2 f2 H1 := kP_keepA hod oq1 (fun h => h.elim (fun h => h.elim (fun h => (hJ1 o2 h).2.2.2 rfl) (fun h => hJ5 h.symm)) (fun h => absurd ho2 (Nat.not_lt.mpr h)))
  refine lv_istore (lv' := [(6, .int kc), (0, .ref b), (1, .ref (ad 0)), (2, .ref (md 0)), (3, .ref o1), (4, .ref o2), (5, .int (nI w))]) hx hb dL_law_524 hl (by decide) rfl (fun ls hl => ?_)
  have hml : c.maxLocals = ls.size := hml9.trans hl.1.symm
  refine lv_aload_n hx hb dL_law_526 rfl (lv_at hl 3 rfl) ?_
  refine k_arg (j := 1) (kv := 1) hx hb hXs hbl hbA hS (lv_at hl 1 rfl) (lv_at hl 6 rfl) (by omega) (by omega) (by decide) (by decide) dL_law_527 dL_law_528 dL_law_530 dL_law_531 dL_law_532 rfl ?_
  refine k_arg (j := 2) (kv := 2) hx hb hXs hbl hbA hS (lv_at hl 1 rfl) (lv_at hl 6 rfl) (by omega) (by omega) (by decide) (by decide) dL_law_533 dL_law_534 dL_law_536 dL_law_537 dL_law_538 rfl ?_
  refine kc_ui (kr_V (As := [.int (xs (w + 1)), .int (xs (w + 2))]) (rest := []) hx hb hml hown hG (c_X7_station l D cy md N co su hM ns nt nr hL hMN (xs (w + 1)) (xs (w + 2))) cf_X7_station wM_L_125 hmw.o rfl hmw ⟨rfl, rfl, Nat.le_of_ble_eq_true rfl, Nat.le_of_ble_eq_true rfl⟩ rfl rfl (Nat.le_of_ble_eq_true rfl) ⟨show cells + 1 + 0 ≤ 601024 by omega, show slots + 6 + 0 ≤ 7293034 by omega⟩ dL_law_539) hS (fun q h => (hJ2 q h).1) (fun r7 H2 locs hp2 z2 oq2 hS => ?_)
  have hol : oL D cy o1 g9 H2 := kP_keepA hol oq2 (fun h => (hJ2 o1 h).2.1 rfl)
  have hod : oD D cy o2 f2 H2 := kP_keepA hod oq2 (fun h => (hJ2 o2 h).2.2 rfl)
  refine lv_istore (lv' := [(7, .int r7), (6, .int kc), (0, .ref b), (1, .ref (ad 0)), (2, .ref (md 0)), (3, .ref o1), (4, .ref o2), (5, .int (nI w))]) hx hb dL_law_542 hl (by decide) rfl (fun ls hl => ?_)
  rcases hcl with ⟨hk, hcw⟩ | ⟨r, hf0, hk, y1, y2, hcw⟩
  · have hcw := hcw.keep oq2 (fun q hq h => (hJ1 q hq).2.1 h)
    rcases hp2 with ⟨k1, hmw⟩ | ⟨k1, hmw⟩ | ⟨k1, -⟩
    · exact k_tail (t := 544) (l := l) hx hb hml9 hown hG dL_law_544 dL_law_545 dL_law_548 dL_law_550 dL_law_555 dL_law_557 dL_law_560 dL_law_561 dL_law_562 dL_law_563 dL_law_565 dL_law_566 dL_law_567 dL_law_572 (by decide) hl hmw (show thr N 1 0 0 = kc from k1.symm.trans ((rfl).trans ek.symm)) hol (fun q => absurd (ek.symm.trans q) hk) (by omega) (by omega) ⟨hc, hs⟩ (fun ls1 hl1 => kk _ _ _ (LI.mk ((hR.no 1).next hn) hA hM hJ hcw hmw hol hod rfl) hS hl1)
    · exact k_tail (t := 544) (l := l) hx hb hml9 hown hG dL_law_544 dL_law_545 dL_law_548 dL_law_550 dL_law_555 dL_law_557 dL_law_560 dL_law_561 dL_law_562 dL_law_563 dL_law_565 dL_law_566 dL_law_567 dL_law_572 (by decide) hl hmw (show thr N 2 0 0 = kc from k1.symm.trans ((rfl).trans ek.symm)) hol (fun q => absurd (ek.symm.trans q) hk) (by omega) (by omega) ⟨hc, hs⟩ (fun ls1 hl1 => kk _ _ _ (LI.mk ((hR.no 2).next hn) hA hM hJ hcw hmw hol hod rfl) hS hl1)
    · exact absurd ((rfl).symm.trans k1) hk
  · have hcw := hcw.keep oq2 (fun q hq h => (CA.addSn hq).elim (fun hq => (hJ1 q hq).2.1 h) (fun hq => absurd (hmlt q h) (Nat.not_lt.mpr hq)))
    rcases hp2 with ⟨k1, -⟩ | ⟨k1, -⟩ | ⟨k1, p1, p2, hmw⟩
    · exact absurd (k1.symm.trans ((rfl).trans hk)) (show ¬ (1 : Int32) = 0 by decide)
    · exact absurd (k1.symm.trans ((rfl).trans hk)) (show ¬ (2 : Int32) = 0 by decide)
    · have hq := S_station (hR.no 0) hn hk y1
      exact k_tail (t := 544) (l := l) hx hb hml9 hown hG dL_law_544 dL_law_545 dL_law_548 dL_law_550 dL_law_555 dL_law_557 dL_law_560 dL_law_561 dL_law_562 dL_law_563 dL_law_565 dL_law_566 dL_law_567 dL_law_572 (by decide) hl hmw ((hk.symm.trans ek.symm)) hol (fun _ => by rw [hf0, y2, p2]) (by omega) (by omega) ⟨hc, hs⟩ (fun ls1 hl1 => kk _ _ _ (LI.mk hq (AI.addSn hA y1 hclt) hM (hJ.grow hmlt ho1 ho2 hz (fun q hq => CA.addSn hq)) hcw hmw hol hod (adA_n (by omega))) hS hl1)
set_option maxHeartbeats 4000000 in
set_option maxRecDepth 100000 in
theorem law_listen (l : Launch) (hlf : l.stackTraces = false) {D : va_G} {cy : Nat → ClassId} {p : Program} {e : Env} {s : State} {m : MethodId} {args : Array Value} {below : List Frame} {meth : Method} {c : Code} {b L : Nat} {xs : Nat → Int32} (hC : LC D cy p s m meth c b L xs) (hL3 : L ≤ 3072) {Q : State → Prop} {n w x m0 o1 o2 : Nat} {H : Heap} {locs : List Loc} {cells slots : Nat} {ls : Array Slot} (hI : LI D cy s.heap.size x m0 o1 o2 n H) (hn : n < 512) (hw6 : w + 6 ≤ L) (hS : va_S (fun q => s.heap.size ≤ q) s.heap H locs) (hc : cells + 51 ≤ 601024) (hs : slots + 669 ≤ 7293034) (hl : lv_has ls 9 [(0, .ref b), (1, .ref x), (2, .ref m0), (3, .ref o1), (4, .ref o2), (5, .int (nI w))])
    (kk : ∀ (H1 : Heap) (locs1 : List Loc) (ls1 : Array Slot), LI D cy s.heap.size x m0 o1 o2 (n + 1) H1 → va_S (fun q => s.heap.size ≤ q) s.heap H1 locs1 → lv_has ls1 9 [(0, .ref b), (1, .ref x), (2, .ref m0), (3, .ref o1), (4, .ref o2), (5, .int (nI w))] → W p l e room_1 s m args below meth c H1 locs1 (cells + 51) (slots + 669) Q (F0 m 1986 ls1 [])) :
    W p l e room_1 s m args below meth c H locs cells slots Q (F0 m 575 ls []) := by
  obtain ⟨⟨hx, hb, hml9, hown⟩, ⟨hG, hX, hGz, hAW, hN⟩, hXs, hbl⟩ := hC
  obtain ⟨ep, ns, nt, nr, M, N, V, co, su, ad, md, f1, f2, hR, hA, hM, hJ, hcw, hmw, hol, hod, rfl, rfl⟩ := hI
  have hbA : ¬ (fun q => s.heap.size ≤ q) b := Nat.not_le.mpr hbl
  have hL := hR.1.1
  have hL8 := hL.1
  have hLt := hL.2.1
  have hLr := hL.2.2
  have hMN := hR.2.1.2.2.1
  have hml : c.maxLocals = ls.size := hml9.trans hl.1.symm
  have hz : s.heap.size ≤ H.size := hS.1
  obtain ⟨hJ1, hJ2, hJ3, hJ4, hJ5⟩ := id hJ
  have hep : ep < 2 ^ 31 := by have := hR.1.2; omega
  have hmlt := MA.lt hmw
  have hclt := CA.lt hcw hL
  have ho1 : o1 < H.size := (hol 0 _ rfl).lt
  have ho2 : o2 < H.size := (hod 0 _ rfl).lt
  refine lv_aload_n hx hb dL_law_575 rfl (lv_at hl 1 rfl) ?_
  refine k_arg (j := 1) (kv := 1) hx hb hXs hbl hbA hS (lv_at hl 0 rfl) (lv_at hl 5 rfl) (by omega) (by omega) (by decide) (by decide) dL_law_576 dL_law_577 dL_law_579 dL_law_580 dL_law_581 rfl ?_
  refine k_arg (j := 2) (kv := 2) hx hb hXs hbl hbA hS (lv_at hl 0 rfl) (lv_at hl 5 rfl) (by omega) (by omega) (by decide) (by decide) dL_law_582 dL_law_583 dL_law_585 dL_law_586 dL_law_587 rfl ?_
  refine lv_aload_n hx hb dL_law_588 rfl (lv_at hl 3 rfl) ?_
  refine kc_ui (kx_SW (As := [.ref (ad 0), .int (xs (w + 1)), .int (xs (w + 2)), .ref o1]) (rest := []) hx hb hml hown hG (c_L_listen l hlf D cy ad ns nt nr hL M V hA (xs (w + 1)) (xs (w + 2)) o1 f1 (fun h => (hJ1 o1 h).2.2.1 rfl)) cfL_listen wM_L_126 (PL.preS hG hX (hGz.at hS) hAW hN ⟨hcw, hol⟩) ⟨rfl, rfl, Nat.le_of_ble_eq_true rfl, Nat.le_of_ble_eq_true rfl⟩ rfl rfl (Nat.le_of_ble_eq_true rfl) ⟨show cells + 1 ≤ 601024 by omega, show slots + 6 ≤ 7293034 by omega⟩ dL_law_589) hS (fun q h => h.elim (fun h => (hJ1 q h).1) (fun h => Nat.le_trans hJ3 (Nat.le_of_eq h.symm))) (fun kc H1 locs hp1 z1 oq1 hS => ?_)
  obtain ⟨ek, g9, hol, hcl⟩ := hp1
  have hmw := hmw.keep oq1 (fun q hq h => h.elim (fun h => (hJ1 q h).2.1 hq) (fun h => (hJ2 q hq).2.1 h))
  have hod : oD D cy o2 f2 H1 := kP_keepA hod oq1 (fun h => h.elim (fun h => (hJ1 o2 h).2.2.2 rfl) (fun h => hJ5 h.symm))
  refine lv_istore (lv' := [(6, .int kc), (0, .ref b), (1, .ref (ad 0)), (2, .ref (md 0)), (3, .ref o1), (4, .ref o2), (5, .int (nI w))]) hx hb dL_law_592 hl (by decide) rfl (fun ls hl => ?_)
  have hml : c.maxLocals = ls.size := hml9.trans hl.1.symm
  refine lv_aload_n hx hb dL_law_594 rfl (lv_at hl 3 rfl) ?_
  refine k_arg (j := 1) (kv := 1) hx hb hXs hbl hbA hS (lv_at hl 1 rfl) (lv_at hl 6 rfl) (by omega) (by omega) (by decide) (by decide) dL_law_595 dL_law_596 dL_law_598 dL_law_599 dL_law_600 rfl ?_
  refine k_arg (j := 2) (kv := 2) hx hb hXs hbl hbA hS (lv_at hl 1 rfl) (lv_at hl 6 rfl) (by omega) (by omega) (by decide) (by decide) dL_law_601 dL_law_602 dL_law_604 dL_law_605 dL_law_606 rfl ?_
  refine kc_ui (kr_V (As := [.int (xs (w + 1)), .int (xs (w + 2))]) (rest := []) hx hb hml hown hG (c_X7_listen l D cy md N co su hM ns nt nr hL hMN (xs (w + 1)) (xs (w + 2))) cf_X7_listen wM_L_128 hmw.o rfl hmw ⟨rfl, rfl, Nat.le_of_ble_eq_true rfl, Nat.le_of_ble_eq_true rfl⟩ rfl rfl (Nat.le_of_ble_eq_true rfl) ⟨show cells + 1 + 0 ≤ 601024 by omega, show slots + 6 + 0 ≤ 7293034 by omega⟩ dL_law_607) hS (fun q h => (hJ2 q h).1) (fun r7 H2 locs hp2 z2 oq2 hS => ?_)
  have hol : oL D cy o1 g9 H2 := kP_keepA hol oq2 (fun h => (hJ2 o1 h).2.1 rfl)
  have hod : oD D cy o2 f2 H2 := kP_keepA hod oq2 (fun h => (hJ2 o2 h).2.2 rfl)
  refine lv_istore (lv' := [(7, .int r7), (6, .int kc), (0, .ref b), (1, .ref (ad 0)), (2, .ref (md 0)), (3, .ref o1), (4, .ref o2), (5, .int (nI w))]) hx hb dL_law_610 hl (by decide) rfl (fun ls hl => ?_)
  rcases hcl with ⟨hk, hcw⟩ | ⟨r, hf0, hk, i, j, hi, hj, ei, ej, er, hcw⟩
  · have hcw := hcw.keep oq2 (fun q hq h => (hJ1 q hq).2.1 h)
    rcases hp2 with ⟨k1, hmw⟩ | ⟨k1, hmw⟩ | ⟨k1, -⟩
    · exact k_tail (t := 612) (l := l) hx hb hml9 hown hG dL_law_612 dL_law_613 dL_law_616 dL_law_618 dL_law_623 dL_law_625 dL_law_628 dL_law_629 dL_law_630 dL_law_631 dL_law_633 dL_law_634 dL_law_635 dL_law_640 (by decide) hl hmw (show thr N 1 0 0 = kc from k1.symm.trans ((eKlis (hR.no 0)).trans ek.symm)) hol (fun q => absurd (ek.symm.trans q) hk) (by omega) (by omega) ⟨hc, hs⟩ (fun ls1 hl1 => kk _ _ _ (LI.mk ((hR.no 1).next hn) hA hM hJ hcw hmw hol hod rfl) hS hl1)
    · exact k_tail (t := 612) (l := l) hx hb hml9 hown hG dL_law_612 dL_law_613 dL_law_616 dL_law_618 dL_law_623 dL_law_625 dL_law_628 dL_law_629 dL_law_630 dL_law_631 dL_law_633 dL_law_634 dL_law_635 dL_law_640 (by decide) hl hmw (show thr N 2 0 0 = kc from k1.symm.trans ((eKlis (hR.no 0)).trans ek.symm)) hol (fun q => absurd (ek.symm.trans q) hk) (by omega) (by omega) ⟨hc, hs⟩ (fun ls1 hl1 => kk _ _ _ (LI.mk ((hR.no 2).next hn) hA hM hJ hcw hmw hol hod rfl) hS hl1)
    · exact absurd ((eKlis (hR.no 0)).symm.trans k1) hk
  · have hcw := hcw.keep oq2 (fun q hq h => (hJ1 q hq).2.1 h)
    rcases hp2 with ⟨k1, -⟩ | ⟨k1, -⟩ | ⟨k1, i2, j2, hi2, hj2, ei2, ej2, er2, hmw⟩
    · exact absurd (k1.symm.trans ((eKlis (hR.no 0)).trans hk)) (show ¬ (1 : Int32) = 0 by decide)
    · exact absurd (k1.symm.trans ((eKlis (hR.no 0)).trans hk)) (show ¬ (2 : Int32) = 0 by decide)
    · obtain rfl : i2 = i := (nI_eq (by omega) (by omega)).mp (ei2.symm.trans ei)
      obtain rfl : j2 = j := (nI_eq (by omega) (by omega)).mp (ej2.symm.trans ej)
      have hq := S_listen (hR.no 0) hn hi2 hj2
      exact k_tail (t := 612) (l := l) hx hb hml9 hown hG dL_law_612 dL_law_613 dL_law_616 dL_law_618 dL_law_623 dL_law_625 dL_law_628 dL_law_629 dL_law_630 dL_law_631 dL_law_633 dL_law_634 dL_law_635 dL_law_640 (by decide) hl hmw (by rw [mset_n (by omega)]; exact hk.symm.trans ek.symm) hol (fun _ => by rw [hf0, er, er2, hq.1]) (by omega) (by omega) ⟨hc, hs⟩ (fun ls1 hl1 => kk _ _ _ (LI.mk hq.2 hA hM hJ hcw hmw hol hod rfl) hS hl1)
set_option maxHeartbeats 4000000 in
set_option maxRecDepth 100000 in
theorem law_receiver (l : Launch) (hlf : l.stackTraces = false) {D : va_G} {cy : Nat → ClassId} {p : Program} {e : Env} {s : State} {m : MethodId} {args : Array Value} {below : List Frame} {meth : Method} {c : Code} {b L : Nat} {xs : Nat → Int32} (hC : LC D cy p s m meth c b L xs) (hL3 : L ≤ 3072) {Q : State → Prop} {n w x m0 o1 o2 : Nat} {H : Heap} {locs : List Loc} {cells slots : Nat} {ls : Array Slot} (hI : LI D cy s.heap.size x m0 o1 o2 n H) (hn : n < 512) (hw6 : w + 6 ≤ L) (hS : va_S (fun q => s.heap.size ≤ q) s.heap H locs) (hc : cells + 51 ≤ 601024) (hs : slots + 669 ≤ 7293034) (hl : lv_has ls 9 [(0, .ref b), (1, .ref x), (2, .ref m0), (3, .ref o1), (4, .ref o2), (5, .int (nI w))])
    (kk : ∀ (H1 : Heap) (locs1 : List Loc) (ls1 : Array Slot), LI D cy s.heap.size x m0 o1 o2 (n + 1) H1 → va_S (fun q => s.heap.size ≤ q) s.heap H1 locs1 → lv_has ls1 9 [(0, .ref b), (1, .ref x), (2, .ref m0), (3, .ref o1), (4, .ref o2), (5, .int (nI w))] → W p l e room_1 s m args below meth c H1 locs1 (cells + 51) (slots + 669) Q (F0 m 1986 ls1 [])) :
    W p l e room_1 s m args below meth c H locs cells slots Q (F0 m 643 ls []) := by
  obtain ⟨⟨hx, hb, hml9, hown⟩, ⟨hG, hX, hGz, hAW, hN⟩, hXs, hbl⟩ := hC
  obtain ⟨ep, ns, nt, nr, M, N, V, co, su, ad, md, f1, f2, hR, hA, hM, hJ, hcw, hmw, hol, hod, rfl, rfl⟩ := hI
  have hbA : ¬ (fun q => s.heap.size ≤ q) b := Nat.not_le.mpr hbl
  have hL := hR.1.1
  have hL8 := hL.1
  have hLt := hL.2.1
  have hLr := hL.2.2
  have hMN := hR.2.1.2.2.1
  have hml : c.maxLocals = ls.size := hml9.trans hl.1.symm
  have hz : s.heap.size ≤ H.size := hS.1
  obtain ⟨hJ1, hJ2, hJ3, hJ4, hJ5⟩ := id hJ
  have hep : ep < 2 ^ 31 := by have := hR.1.2; omega
  have hmlt := MA.lt hmw
  have hclt := CA.lt hcw hL
  have ho1 : o1 < H.size := (hol 0 _ rfl).lt
  have ho2 : o2 < H.size := (hod 0 _ rfl).lt
  refine lv_aload_n hx hb dL_law_643 rfl (lv_at hl 1 rfl) ?_
  refine k_arg (j := 1) (kv := 1) hx hb hXs hbl hbA hS (lv_at hl 0 rfl) (lv_at hl 5 rfl) (by omega) (by omega) (by decide) (by decide) dL_law_644 dL_law_645 dL_law_647 dL_law_648 dL_law_649 rfl ?_
  refine k_arg (j := 2) (kv := 2) hx hb hXs hbl hbA hS (lv_at hl 0 rfl) (lv_at hl 5 rfl) (by omega) (by omega) (by decide) (by decide) dL_law_650 dL_law_651 dL_law_653 dL_law_654 dL_law_655 rfl ?_
  refine k_arg (j := 3) (kv := 3) hx hb hXs hbl hbA hS (lv_at hl 0 rfl) (lv_at hl 5 rfl) (by omega) (by omega) (by decide) (by decide) dL_law_656 dL_law_657 dL_law_659 dL_law_660 dL_law_661 rfl ?_
  refine lv_aload_n hx hb dL_law_662 rfl (lv_at hl 3 rfl) ?_
  refine kc_ui (kx_SW (As := [.ref (ad 0), .int (xs (w + 1)), .int (xs (w + 2)), .int (xs (w + 3)), .ref o1]) (rest := []) hx hb hml hown hG (c_L_receiver l hlf D cy ad ns nt nr hL M V hA (xs (w + 1)) (xs (w + 2)) (xs (w + 3)) H.size o1 f1 (fun h => (hJ1 o1 h).2.2.1 rfl)) cfL_receiver wM_L_129 (PL.preS hG hX (hGz.at hS) hAW hN ⟨⟨hcw, hol⟩, rfl⟩) ⟨rfl, rfl, Nat.le_of_ble_eq_true rfl, Nat.le_of_ble_eq_true rfl⟩ rfl rfl (Nat.le_of_ble_eq_true rfl) ⟨show cells + 11 ≤ 601024 by omega, show slots + 122 ≤ 7293034 by omega⟩ dL_law_663) hS (fun q h => h.elim (fun h => h.elim (fun h => (hJ1 q h).1) (fun h => Nat.le_trans hJ3 (Nat.le_of_eq h.symm))) (fun h => Nat.le_trans hz h)) (fun kc H1 locs hp1 z1 oq1 hS => ?_)
  obtain ⟨ek, g9, hol, hcl⟩ := hp1
  have hmw := hmw.keep oq1 (fun q hq h => h.elim (fun h => h.elim (fun h => (hJ1 q h).2.1 hq) (fun h => (hJ2 q hq).2.1 h)) (fun h => absurd (hmlt q hq) (Nat.not_lt.mpr h)))
  have hod : oD D cy o2 f2 H1 := kP_keepA hod oq1 (fun h => h.elim (fun h => h.elim (fun h => (hJ1 o2 h).2.2.2 rfl) (fun h => hJ5 h.symm)) (fun h => absurd ho2 (Nat.not_lt.mpr h)))
  refine lv_istore (lv' := [(6, .int kc), (0, .ref b), (1, .ref (ad 0)), (2, .ref (md 0)), (3, .ref o1), (4, .ref o2), (5, .int (nI w))]) hx hb dL_law_666 hl (by decide) rfl (fun ls hl => ?_)
  have hml : c.maxLocals = ls.size := hml9.trans hl.1.symm
  refine lv_aload_n hx hb dL_law_668 rfl (lv_at hl 3 rfl) ?_
  refine k_arg (j := 1) (kv := 1) hx hb hXs hbl hbA hS (lv_at hl 1 rfl) (lv_at hl 6 rfl) (by omega) (by omega) (by decide) (by decide) dL_law_669 dL_law_670 dL_law_672 dL_law_673 dL_law_674 rfl ?_
  refine k_arg (j := 2) (kv := 2) hx hb hXs hbl hbA hS (lv_at hl 1 rfl) (lv_at hl 6 rfl) (by omega) (by omega) (by decide) (by decide) dL_law_675 dL_law_676 dL_law_678 dL_law_679 dL_law_680 rfl ?_
  refine k_arg (j := 3) (kv := 3) hx hb hXs hbl hbA hS (lv_at hl 1 rfl) (lv_at hl 6 rfl) (by omega) (by omega) (by decide) (by decide) dL_law_681 dL_law_682 dL_law_684 dL_law_685 dL_law_686 rfl ?_
  refine kc_ui (kr_V (As := [.int (xs (w + 1)), .int (xs (w + 2)), .int (xs (w + 3))]) (rest := []) hx hb hml hown hG (c_X7_receiver l D cy md N co su hM ns nt nr hL hMN (xs (w + 1)) (xs (w + 2)) (xs (w + 3))) cf_X7_receiver wM_L_131 hmw.o rfl hmw ⟨rfl, rfl, Nat.le_of_ble_eq_true rfl, Nat.le_of_ble_eq_true rfl⟩ rfl rfl (Nat.le_of_ble_eq_true rfl) ⟨show cells + 11 + 0 ≤ 601024 by omega, show slots + 122 + 0 ≤ 7293034 by omega⟩ dL_law_687) hS (fun q h => (hJ2 q h).1) (fun r7 H2 locs hp2 z2 oq2 hS => ?_)
  have hol : oL D cy o1 g9 H2 := kP_keepA hol oq2 (fun h => (hJ2 o1 h).2.1 rfl)
  have hod : oD D cy o2 f2 H2 := kP_keepA hod oq2 (fun h => (hJ2 o2 h).2.2 rfl)
  refine lv_istore (lv' := [(7, .int r7), (6, .int kc), (0, .ref b), (1, .ref (ad 0)), (2, .ref (md 0)), (3, .ref o1), (4, .ref o2), (5, .int (nI w))]) hx hb dL_law_690 hl (by decide) rfl (fun ls hl => ?_)
  rcases hcl with ⟨hk, hcw⟩ | ⟨r, hf0, hk, y1, y2, hcw⟩
  · have hcw := hcw.keep oq2 (fun q hq h => (hJ1 q hq).2.1 h)
    rcases hp2 with ⟨k1, hmw⟩ | ⟨k1, hmw⟩ | ⟨k1, -⟩
    · exact k_tail (t := 692) (l := l) hx hb hml9 hown hG dL_law_692 dL_law_693 dL_law_696 dL_law_698 dL_law_703 dL_law_705 dL_law_708 dL_law_709 dL_law_710 dL_law_711 dL_law_713 dL_law_714 dL_law_715 dL_law_720 (by decide) hl hmw (show thr N 1 0 0 = kc from k1.symm.trans ((rfl).trans ek.symm)) hol (fun q => absurd (ek.symm.trans q) hk) (by omega) (by omega) ⟨hc, hs⟩ (fun ls1 hl1 => kk _ _ _ (LI.mk ((hR.no 1).next hn) hA hM hJ hcw hmw hol hod rfl) hS hl1)
    · exact k_tail (t := 692) (l := l) hx hb hml9 hown hG dL_law_692 dL_law_693 dL_law_696 dL_law_698 dL_law_703 dL_law_705 dL_law_708 dL_law_709 dL_law_710 dL_law_711 dL_law_713 dL_law_714 dL_law_715 dL_law_720 (by decide) hl hmw (show thr N 2 0 0 = kc from k1.symm.trans ((rfl).trans ek.symm)) hol (fun q => absurd (ek.symm.trans q) hk) (by omega) (by omega) ⟨hc, hs⟩ (fun ls1 hl1 => kk _ _ _ (LI.mk ((hR.no 2).next hn) hA hM hJ hcw hmw hol hod rfl) hS hl1)
    · exact absurd ((rfl).symm.trans k1) hk
  · have hcw := hcw.keep oq2 (fun q hq h => (CA.addRc y1 hq).elim (fun hq => (hJ1 q hq).2.1 h) (fun hq => absurd (hmlt q h) (Nat.not_lt.mpr hq)))
    rcases hp2 with ⟨k1, -⟩ | ⟨k1, -⟩ | ⟨k1, p1, p2, hmw⟩
    · exact absurd (k1.symm.trans ((rfl).trans hk)) (show ¬ (1 : Int32) = 0 by decide)
    · exact absurd (k1.symm.trans ((rfl).trans hk)) (show ¬ (2 : Int32) = 0 by decide)
    · have hq := S_receiver (hR.no 0) hn hk y1
      exact k_tail (t := 692) (l := l) hx hb hml9 hown hG dL_law_692 dL_law_693 dL_law_696 dL_law_698 dL_law_703 dL_law_705 dL_law_708 dL_law_709 dL_law_710 dL_law_711 dL_law_713 dL_law_714 dL_law_715 dL_law_720 (by decide) hl hmw ((hk.symm.trans ek.symm)) hol (fun _ => by rw [hf0, y2, p2]) (by omega) (by omega) ⟨hc, hs⟩ (fun ls1 hl1 => kk _ _ _ (LI.mk hq (AI.addRc hA y1 hclt) hM (hJ.grow hmlt ho1 ho2 hz (fun q hq => CA.addRc y1 hq)) hcw hmw hol hod (adR_n (by unfold NK; omega))) hS hl1)
set_option maxHeartbeats 4000000 in
set_option maxRecDepth 100000 in
theorem law_go (l : Launch) (hlf : l.stackTraces = false) {D : va_G} {cy : Nat → ClassId} {p : Program} {e : Env} {s : State} {m : MethodId} {args : Array Value} {below : List Frame} {meth : Method} {c : Code} {b L : Nat} {xs : Nat → Int32} (hC : LC D cy p s m meth c b L xs) (hL3 : L ≤ 3072) {Q : State → Prop} {n w x m0 o1 o2 : Nat} {H : Heap} {locs : List Loc} {cells slots : Nat} {ls : Array Slot} (hI : LI D cy s.heap.size x m0 o1 o2 n H) (hn : n < 512) (hw6 : w + 6 ≤ L) (hS : va_S (fun q => s.heap.size ≤ q) s.heap H locs) (hc : cells + 51 ≤ 601024) (hs : slots + 669 ≤ 7293034) (hl : lv_has ls 9 [(0, .ref b), (1, .ref x), (2, .ref m0), (3, .ref o1), (4, .ref o2), (5, .int (nI w))])
    (kk : ∀ (H1 : Heap) (locs1 : List Loc) (ls1 : Array Slot), LI D cy s.heap.size x m0 o1 o2 (n + 1) H1 → va_S (fun q => s.heap.size ≤ q) s.heap H1 locs1 → lv_has ls1 9 [(0, .ref b), (1, .ref x), (2, .ref m0), (3, .ref o1), (4, .ref o2), (5, .int (nI w))] → W p l e room_1 s m args below meth c H1 locs1 (cells + 51) (slots + 669) Q (F0 m 1986 ls1 [])) :
    W p l e room_1 s m args below meth c H locs cells slots Q (F0 m 723 ls []) := by
  obtain ⟨⟨hx, hb, hml9, hown⟩, ⟨hG, hX, hGz, hAW, hN⟩, hXs, hbl⟩ := hC
  obtain ⟨ep, ns, nt, nr, M, N, V, co, su, ad, md, f1, f2, hR, hA, hM, hJ, hcw, hmw, hol, hod, rfl, rfl⟩ := hI
  have hbA : ¬ (fun q => s.heap.size ≤ q) b := Nat.not_le.mpr hbl
  have hL := hR.1.1
  have hL8 := hL.1
  have hLt := hL.2.1
  have hLr := hL.2.2
  have hMN := hR.2.1.2.2.1
  have hml : c.maxLocals = ls.size := hml9.trans hl.1.symm
  have hz : s.heap.size ≤ H.size := hS.1
  obtain ⟨hJ1, hJ2, hJ3, hJ4, hJ5⟩ := id hJ
  have hep : ep < 2 ^ 31 := by have := hR.1.2; omega
  have hmlt := MA.lt hmw
  have hclt := CA.lt hcw hL
  have ho1 : o1 < H.size := (hol 0 _ rfl).lt
  have ho2 : o2 < H.size := (hod 0 _ rfl).lt
  refine lv_aload_n hx hb dL_law_723 rfl (lv_at hl 1 rfl) ?_
  refine k_arg (j := 1) (kv := 1) hx hb hXs hbl hbA hS (lv_at hl 0 rfl) (lv_at hl 5 rfl) (by omega) (by omega) (by decide) (by decide) dL_law_724 dL_law_725 dL_law_727 dL_law_728 dL_law_729 rfl ?_
  refine k_arg (j := 2) (kv := 2) hx hb hXs hbl hbA hS (lv_at hl 0 rfl) (lv_at hl 5 rfl) (by omega) (by omega) (by decide) (by decide) dL_law_730 dL_law_731 dL_law_733 dL_law_734 dL_law_735 rfl ?_
  refine k_arg (j := 3) (kv := 3) hx hb hXs hbl hbA hS (lv_at hl 0 rfl) (lv_at hl 5 rfl) (by omega) (by omega) (by decide) (by decide) dL_law_736 dL_law_737 dL_law_739 dL_law_740 dL_law_741 rfl ?_
  refine lv_aload_n hx hb dL_law_742 rfl (lv_at hl 3 rfl) ?_
  refine kc_ui (kx_SW (As := [.ref (ad 0), .int (xs (w + 1)), .int (xs (w + 2)), .int (xs (w + 3)), .ref o1]) (rest := []) hx hb hml hown hG (c_L_go l hlf D cy ad ns nt nr hL M V hA (xs (w + 1)) (xs (w + 2)) (xs (w + 3)) o1 f1 (fun h => (hJ1 o1 h).2.2.1 rfl)) cfL_go wM_L_132 (PL.preS hG hX (hGz.at hS) hAW hN ⟨hcw, hol⟩) ⟨rfl, rfl, Nat.le_of_ble_eq_true rfl, Nat.le_of_ble_eq_true rfl⟩ rfl rfl (Nat.le_of_ble_eq_true rfl) ⟨show cells + 1 ≤ 601024 by omega, show slots + 6 ≤ 7293034 by omega⟩ dL_law_743) hS (fun q h => h.elim (fun h => (hJ1 q h).1) (fun h => Nat.le_trans hJ3 (Nat.le_of_eq h.symm))) (fun kc H1 locs hp1 z1 oq1 hS => ?_)
  obtain ⟨ek, g9, hol, hcl⟩ := hp1
  have hmw := hmw.keep oq1 (fun q hq h => h.elim (fun h => (hJ1 q h).2.1 hq) (fun h => (hJ2 q hq).2.1 h))
  have hod : oD D cy o2 f2 H1 := kP_keepA hod oq1 (fun h => h.elim (fun h => (hJ1 o2 h).2.2.2 rfl) (fun h => hJ5 h.symm))
  refine lv_istore (lv' := [(6, .int kc), (0, .ref b), (1, .ref (ad 0)), (2, .ref (md 0)), (3, .ref o1), (4, .ref o2), (5, .int (nI w))]) hx hb dL_law_746 hl (by decide) rfl (fun ls hl => ?_)
  have hml : c.maxLocals = ls.size := hml9.trans hl.1.symm
  refine lv_aload_n hx hb dL_law_748 rfl (lv_at hl 3 rfl) ?_
  refine k_arg (j := 1) (kv := 1) hx hb hXs hbl hbA hS (lv_at hl 1 rfl) (lv_at hl 6 rfl) (by omega) (by omega) (by decide) (by decide) dL_law_749 dL_law_750 dL_law_752 dL_law_753 dL_law_754 rfl ?_
  refine k_arg (j := 2) (kv := 2) hx hb hXs hbl hbA hS (lv_at hl 1 rfl) (lv_at hl 6 rfl) (by omega) (by omega) (by decide) (by decide) dL_law_755 dL_law_756 dL_law_758 dL_law_759 dL_law_760 rfl ?_
  refine k_arg (j := 3) (kv := 3) hx hb hXs hbl hbA hS (lv_at hl 1 rfl) (lv_at hl 6 rfl) (by omega) (by omega) (by decide) (by decide) dL_law_761 dL_law_762 dL_law_764 dL_law_765 dL_law_766 rfl ?_
  refine kc_ui (kr_V (As := [.int (xs (w + 1)), .int (xs (w + 2)), .int (xs (w + 3))]) (rest := []) hx hb hml hown hG (c_X7_go l D cy md N co su hM ns nt nr hL hMN (xs (w + 1)) (xs (w + 2)) (xs (w + 3))) cf_X7_go wM_L_134 hmw.o rfl hmw ⟨rfl, rfl, Nat.le_of_ble_eq_true rfl, Nat.le_of_ble_eq_true rfl⟩ rfl rfl (Nat.le_of_ble_eq_true rfl) ⟨show cells + 1 + 0 ≤ 601024 by omega, show slots + 6 + 0 ≤ 7293034 by omega⟩ dL_law_767) hS (fun q h => (hJ2 q h).1) (fun r7 H2 locs hp2 z2 oq2 hS => ?_)
  have hol : oL D cy o1 g9 H2 := kP_keepA hol oq2 (fun h => (hJ2 o1 h).2.1 rfl)
  have hod : oD D cy o2 f2 H2 := kP_keepA hod oq2 (fun h => (hJ2 o2 h).2.2 rfl)
  refine lv_istore (lv' := [(7, .int r7), (6, .int kc), (0, .ref b), (1, .ref (ad 0)), (2, .ref (md 0)), (3, .ref o1), (4, .ref o2), (5, .int (nI w))]) hx hb dL_law_770 hl (by decide) rfl (fun ls hl => ?_)
  rcases hcl with ⟨hk, hcw⟩ | ⟨r, hf0, hk, i, hi, ei, er, hcw⟩
  · have hcw := hcw.keep oq2 (fun q hq h => (hJ1 q hq).2.1 h)
    rcases hp2 with ⟨k1, hmw⟩ | ⟨k1, hmw⟩ | ⟨k1, -⟩
    · exact k_tail (t := 772) (l := l) hx hb hml9 hown hG dL_law_772 dL_law_773 dL_law_776 dL_law_778 dL_law_783 dL_law_785 dL_law_788 dL_law_789 dL_law_790 dL_law_791 dL_law_793 dL_law_794 dL_law_795 dL_law_800 (by decide) hl hmw (show thr N 1 0 0 = kc from k1.symm.trans ((rfl).trans ek.symm)) hol (fun q => absurd (ek.symm.trans q) hk) (by omega) (by omega) ⟨hc, hs⟩ (fun ls1 hl1 => kk _ _ _ (LI.mk ((hR.no 1).next hn) hA hM hJ hcw hmw hol hod rfl) hS hl1)
    · exact k_tail (t := 772) (l := l) hx hb hml9 hown hG dL_law_772 dL_law_773 dL_law_776 dL_law_778 dL_law_783 dL_law_785 dL_law_788 dL_law_789 dL_law_790 dL_law_791 dL_law_793 dL_law_794 dL_law_795 dL_law_800 (by decide) hl hmw (show thr N 2 0 0 = kc from k1.symm.trans ((rfl).trans ek.symm)) hol (fun q => absurd (ek.symm.trans q) hk) (by omega) (by omega) ⟨hc, hs⟩ (fun ls1 hl1 => kk _ _ _ (LI.mk ((hR.no 2).next hn) hA hM hJ hcw hmw hol hod rfl) hS hl1)
    · exact absurd ((rfl).symm.trans k1) hk
  · have hcw := hcw.keep oq2 (fun q hq h => (hJ1 q hq).2.1 h)
    rcases hp2 with ⟨k1, -⟩ | ⟨k1, -⟩ | ⟨k1, i2, hi2, ei2, er2, hmw⟩
    · exact absurd (k1.symm.trans ((rfl).trans hk)) (show ¬ (1 : Int32) = 0 by decide)
    · exact absurd (k1.symm.trans ((rfl).trans hk)) (show ¬ (2 : Int32) = 0 by decide)
    · obtain rfl : i2 = i := (nI_eq (by omega) (by omega)).mp (ei2.symm.trans ei)
      have hq := S_go (hR.no 0) hn hk hi
      exact k_tail (t := 772) (l := l) hx hb hml9 hown hG dL_law_772 dL_law_773 dL_law_776 dL_law_778 dL_law_783 dL_law_785 dL_law_788 dL_law_789 dL_law_790 dL_law_791 dL_law_793 dL_law_794 dL_law_795 dL_law_800 (by decide) hl hmw (by rw [mset_n (by omega)]; exact hk.symm.trans ek.symm) hol (fun _ => by rw [hf0, er, er2, hq.1]) (by omega) (by omega) ⟨hc, hs⟩ (fun ls1 hl1 => kk _ _ _ (LI.mk hq.2 hA hM hJ hcw hmw hol hod rfl) hS hl1)
set_option maxHeartbeats 4000000 in
set_option maxRecDepth 100000 in
theorem law_hills (l : Launch) (hlf : l.stackTraces = false) {D : va_G} {cy : Nat → ClassId} {p : Program} {e : Env} {s : State} {m : MethodId} {args : Array Value} {below : List Frame} {meth : Method} {c : Code} {b L : Nat} {xs : Nat → Int32} (hC : LC D cy p s m meth c b L xs) (hL3 : L ≤ 3072) {Q : State → Prop} {n w x m0 o1 o2 : Nat} {H : Heap} {locs : List Loc} {cells slots : Nat} {ls : Array Slot} (hI : LI D cy s.heap.size x m0 o1 o2 n H) (hn : n < 512) (hw6 : w + 6 ≤ L) (hS : va_S (fun q => s.heap.size ≤ q) s.heap H locs) (hc : cells + 51 ≤ 601024) (hs : slots + 669 ≤ 7293034) (hl : lv_has ls 9 [(0, .ref b), (1, .ref x), (2, .ref m0), (3, .ref o1), (4, .ref o2), (5, .int (nI w))])
    (kk : ∀ (H1 : Heap) (locs1 : List Loc) (ls1 : Array Slot), LI D cy s.heap.size x m0 o1 o2 (n + 1) H1 → va_S (fun q => s.heap.size ≤ q) s.heap H1 locs1 → lv_has ls1 9 [(0, .ref b), (1, .ref x), (2, .ref m0), (3, .ref o1), (4, .ref o2), (5, .int (nI w))] → W p l e room_1 s m args below meth c H1 locs1 (cells + 51) (slots + 669) Q (F0 m 1986 ls1 [])) :
    W p l e room_1 s m args below meth c H locs cells slots Q (F0 m 803 ls []) := by
  obtain ⟨⟨hx, hb, hml9, hown⟩, ⟨hG, hX, hGz, hAW, hN⟩, hXs, hbl⟩ := hC
  obtain ⟨ep, ns, nt, nr, M, N, V, co, su, ad, md, f1, f2, hR, hA, hM, hJ, hcw, hmw, hol, hod, rfl, rfl⟩ := hI
  have hbA : ¬ (fun q => s.heap.size ≤ q) b := Nat.not_le.mpr hbl
  have hL := hR.1.1
  have hL8 := hL.1
  have hLt := hL.2.1
  have hLr := hL.2.2
  have hMN := hR.2.1.2.2.1
  have hml : c.maxLocals = ls.size := hml9.trans hl.1.symm
  have hz : s.heap.size ≤ H.size := hS.1
  obtain ⟨hJ1, hJ2, hJ3, hJ4, hJ5⟩ := id hJ
  have hep : ep < 2 ^ 31 := by have := hR.1.2; omega
  have hmlt := MA.lt hmw
  have hclt := CA.lt hcw hL
  have ho1 : o1 < H.size := (hol 0 _ rfl).lt
  have ho2 : o2 < H.size := (hod 0 _ rfl).lt
  refine lv_aload_n hx hb dL_law_803 rfl (lv_at hl 1 rfl) ?_
  refine k_arg (j := 1) (kv := 1) hx hb hXs hbl hbA hS (lv_at hl 0 rfl) (lv_at hl 5 rfl) (by omega) (by omega) (by decide) (by decide) dL_law_804 dL_law_805 dL_law_807 dL_law_808 dL_law_809 rfl ?_
  refine k_arg (j := 2) (kv := 2) hx hb hXs hbl hbA hS (lv_at hl 0 rfl) (lv_at hl 5 rfl) (by omega) (by omega) (by decide) (by decide) dL_law_810 dL_law_811 dL_law_813 dL_law_814 dL_law_815 rfl ?_
  refine k_arg (j := 3) (kv := 3) hx hb hXs hbl hbA hS (lv_at hl 0 rfl) (lv_at hl 5 rfl) (by omega) (by omega) (by decide) (by decide) dL_law_816 dL_law_817 dL_law_819 dL_law_820 dL_law_821 rfl ?_
  refine lv_aload_n hx hb dL_law_822 rfl (lv_at hl 3 rfl) ?_
  refine kc_ui (kx_SW (As := [.ref (ad 0), .int (xs (w + 1)), .int (xs (w + 2)), .int (xs (w + 3)), .ref o1]) (rest := []) hx hb hml hown hG (c_L_hills l hlf D cy ad ns nt nr hL M V hA (xs (w + 1)) (xs (w + 2)) (xs (w + 3)) o1 f1 (fun h => (hJ1 o1 h).2.2.1 rfl)) cfL_hills wM_L_135 (PL.preS hG hX (hGz.at hS) hAW hN ⟨hcw, hol⟩) ⟨rfl, rfl, Nat.le_of_ble_eq_true rfl, Nat.le_of_ble_eq_true rfl⟩ rfl rfl (Nat.le_of_ble_eq_true rfl) ⟨show cells + 1 ≤ 601024 by omega, show slots + 6 ≤ 7293034 by omega⟩ dL_law_823) hS (fun q h => h.elim (fun h => (hJ1 q h).1) (fun h => Nat.le_trans hJ3 (Nat.le_of_eq h.symm))) (fun kc H1 locs hp1 z1 oq1 hS => ?_)
  obtain ⟨ek, g9, hol, hcl⟩ := hp1
  have hmw := hmw.keep oq1 (fun q hq h => h.elim (fun h => (hJ1 q h).2.1 hq) (fun h => (hJ2 q hq).2.1 h))
  have hod : oD D cy o2 f2 H1 := kP_keepA hod oq1 (fun h => h.elim (fun h => (hJ1 o2 h).2.2.2 rfl) (fun h => hJ5 h.symm))
  refine lv_istore (lv' := [(6, .int kc), (0, .ref b), (1, .ref (ad 0)), (2, .ref (md 0)), (3, .ref o1), (4, .ref o2), (5, .int (nI w))]) hx hb dL_law_826 hl (by decide) rfl (fun ls hl => ?_)
  have hml : c.maxLocals = ls.size := hml9.trans hl.1.symm
  refine lv_aload_n hx hb dL_law_828 rfl (lv_at hl 3 rfl) ?_
  refine k_arg (j := 1) (kv := 1) hx hb hXs hbl hbA hS (lv_at hl 1 rfl) (lv_at hl 6 rfl) (by omega) (by omega) (by decide) (by decide) dL_law_829 dL_law_830 dL_law_832 dL_law_833 dL_law_834 rfl ?_
  refine k_arg (j := 2) (kv := 2) hx hb hXs hbl hbA hS (lv_at hl 1 rfl) (lv_at hl 6 rfl) (by omega) (by omega) (by decide) (by decide) dL_law_835 dL_law_836 dL_law_838 dL_law_839 dL_law_840 rfl ?_
  refine k_arg (j := 3) (kv := 3) hx hb hXs hbl hbA hS (lv_at hl 1 rfl) (lv_at hl 6 rfl) (by omega) (by omega) (by decide) (by decide) dL_law_841 dL_law_842 dL_law_844 dL_law_845 dL_law_846 rfl ?_
  refine kc_ui (kr_V (As := [.int (xs (w + 1)), .int (xs (w + 2)), .int (xs (w + 3))]) (rest := []) hx hb hml hown hG (c_X7_hills l D cy md N co su hM ns nt nr hL hMN (xs (w + 1)) (xs (w + 2)) (xs (w + 3))) cf_X7_hills wM_L_137 hmw.o rfl hmw ⟨rfl, rfl, Nat.le_of_ble_eq_true rfl, Nat.le_of_ble_eq_true rfl⟩ rfl rfl (Nat.le_of_ble_eq_true rfl) ⟨show cells + 1 + 0 ≤ 601024 by omega, show slots + 6 + 0 ≤ 7293034 by omega⟩ dL_law_847) hS (fun q h => (hJ2 q h).1) (fun r7 H2 locs hp2 z2 oq2 hS => ?_)
  have hol : oL D cy o1 g9 H2 := kP_keepA hol oq2 (fun h => (hJ2 o1 h).2.1 rfl)
  have hod : oD D cy o2 f2 H2 := kP_keepA hod oq2 (fun h => (hJ2 o2 h).2.2 rfl)
  refine lv_istore (lv' := [(7, .int r7), (6, .int kc), (0, .ref b), (1, .ref (ad 0)), (2, .ref (md 0)), (3, .ref o1), (4, .ref o2), (5, .int (nI w))]) hx hb dL_law_850 hl (by decide) rfl (fun ls hl => ?_)
  rcases hcl with ⟨hk, hcw⟩ | ⟨r, hf0, hk, i, hi, ei, er, hcw⟩
  · have hcw := hcw.keep oq2 (fun q hq h => (hJ1 q hq).2.1 h)
    rcases hp2 with ⟨k1, hmw⟩ | ⟨k1, hmw⟩ | ⟨k1, -⟩
    · exact k_tail (t := 852) (l := l) hx hb hml9 hown hG dL_law_852 dL_law_853 dL_law_856 dL_law_858 dL_law_863 dL_law_865 dL_law_868 dL_law_869 dL_law_870 dL_law_871 dL_law_873 dL_law_874 dL_law_875 dL_law_880 (by decide) hl hmw (show thr N 1 0 0 = kc from k1.symm.trans ((rfl).trans ek.symm)) hol (fun q => absurd (ek.symm.trans q) hk) (by omega) (by omega) ⟨hc, hs⟩ (fun ls1 hl1 => kk _ _ _ (LI.mk ((hR.no 1).next hn) hA hM hJ hcw hmw hol hod rfl) hS hl1)
    · exact k_tail (t := 852) (l := l) hx hb hml9 hown hG dL_law_852 dL_law_853 dL_law_856 dL_law_858 dL_law_863 dL_law_865 dL_law_868 dL_law_869 dL_law_870 dL_law_871 dL_law_873 dL_law_874 dL_law_875 dL_law_880 (by decide) hl hmw (show thr N 2 0 0 = kc from k1.symm.trans ((rfl).trans ek.symm)) hol (fun q => absurd (ek.symm.trans q) hk) (by omega) (by omega) ⟨hc, hs⟩ (fun ls1 hl1 => kk _ _ _ (LI.mk ((hR.no 2).next hn) hA hM hJ hcw hmw hol hod rfl) hS hl1)
    · exact absurd ((rfl).symm.trans k1) hk
  · have hcw := hcw.keep oq2 (fun q hq h => (hJ1 q hq).2.1 h)
    rcases hp2 with ⟨k1, -⟩ | ⟨k1, -⟩ | ⟨k1, i2, hi2, ei2, er2, hmw⟩
    · exact absurd (k1.symm.trans ((rfl).trans hk)) (show ¬ (1 : Int32) = 0 by decide)
    · exact absurd (k1.symm.trans ((rfl).trans hk)) (show ¬ (2 : Int32) = 0 by decide)
    · obtain rfl : i2 = i := (nI_eq (by omega) (by omega)).mp (ei2.symm.trans ei)
      have hq := S_hills (lf := (xs (w + 2))) (rt := (xs (w + 3))) (hR.no 0) hn hi
      exact k_tail (t := 852) (l := l) hx hb hml9 hown hG dL_law_852 dL_law_853 dL_law_856 dL_law_858 dL_law_863 dL_law_865 dL_law_868 dL_law_869 dL_law_870 dL_law_871 dL_law_873 dL_law_874 dL_law_875 dL_law_880 (by decide) hl hmw (by rw [mset_n (by omega)]; exact hk.symm.trans ek.symm) hol (fun _ => by rw [hf0, er, er2, hq.1]) (by omega) (by omega) ⟨hc, hs⟩ (fun ls1 hl1 => kk _ _ _ (LI.mk hq.2 hA hM hJ hcw hmw hol hod rfl) hS hl1)
set_option maxHeartbeats 4000000 in
set_option maxRecDepth 100000 in
theorem law_air (l : Launch) (hlf : l.stackTraces = false) {D : va_G} {cy : Nat → ClassId} {p : Program} {e : Env} {s : State} {m : MethodId} {args : Array Value} {below : List Frame} {meth : Method} {c : Code} {b L : Nat} {xs : Nat → Int32} (hC : LC D cy p s m meth c b L xs) (hL3 : L ≤ 3072) {Q : State → Prop} {n w x m0 o1 o2 : Nat} {H : Heap} {locs : List Loc} {cells slots : Nat} {ls : Array Slot} (hI : LI D cy s.heap.size x m0 o1 o2 n H) (hn : n < 512) (hw6 : w + 6 ≤ L) (hS : va_S (fun q => s.heap.size ≤ q) s.heap H locs) (hc : cells + 51 ≤ 601024) (hs : slots + 669 ≤ 7293034) (hl : lv_has ls 9 [(0, .ref b), (1, .ref x), (2, .ref m0), (3, .ref o1), (4, .ref o2), (5, .int (nI w))])
    (kk : ∀ (H1 : Heap) (locs1 : List Loc) (ls1 : Array Slot), LI D cy s.heap.size x m0 o1 o2 (n + 1) H1 → va_S (fun q => s.heap.size ≤ q) s.heap H1 locs1 → lv_has ls1 9 [(0, .ref b), (1, .ref x), (2, .ref m0), (3, .ref o1), (4, .ref o2), (5, .int (nI w))] → W p l e room_1 s m args below meth c H1 locs1 (cells + 51) (slots + 669) Q (F0 m 1986 ls1 [])) :
    W p l e room_1 s m args below meth c H locs cells slots Q (F0 m 883 ls []) := by
  obtain ⟨⟨hx, hb, hml9, hown⟩, ⟨hG, hX, hGz, hAW, hN⟩, hXs, hbl⟩ := hC
  obtain ⟨ep, ns, nt, nr, M, N, V, co, su, ad, md, f1, f2, hR, hA, hM, hJ, hcw, hmw, hol, hod, rfl, rfl⟩ := hI
  have hbA : ¬ (fun q => s.heap.size ≤ q) b := Nat.not_le.mpr hbl
  have hL := hR.1.1
  have hL8 := hL.1
  have hLt := hL.2.1
  have hLr := hL.2.2
  have hMN := hR.2.1.2.2.1
  have hml : c.maxLocals = ls.size := hml9.trans hl.1.symm
  have hz : s.heap.size ≤ H.size := hS.1
  obtain ⟨hJ1, hJ2, hJ3, hJ4, hJ5⟩ := id hJ
  have hep : ep < 2 ^ 31 := by have := hR.1.2; omega
  have hmlt := MA.lt hmw
  have hclt := CA.lt hcw hL
  have ho1 : o1 < H.size := (hol 0 _ rfl).lt
  have ho2 : o2 < H.size := (hod 0 _ rfl).lt
  refine lv_aload_n hx hb dL_law_883 rfl (lv_at hl 1 rfl) ?_
  refine k_arg (j := 1) (kv := 1) hx hb hXs hbl hbA hS (lv_at hl 0 rfl) (lv_at hl 5 rfl) (by omega) (by omega) (by decide) (by decide) dL_law_884 dL_law_885 dL_law_887 dL_law_888 dL_law_889 rfl ?_
  refine k_arg (j := 2) (kv := 2) hx hb hXs hbl hbA hS (lv_at hl 0 rfl) (lv_at hl 5 rfl) (by omega) (by omega) (by decide) (by decide) dL_law_890 dL_law_891 dL_law_893 dL_law_894 dL_law_895 rfl ?_
  refine k_arg (j := 3) (kv := 3) hx hb hXs hbl hbA hS (lv_at hl 0 rfl) (lv_at hl 5 rfl) (by omega) (by omega) (by decide) (by decide) dL_law_896 dL_law_897 dL_law_899 dL_law_900 dL_law_901 rfl ?_
  refine k_b2i hx hb dL_law_902 dL_law_905 dL_law_906 dL_law_909 rfl ?_
  refine lv_aload_n hx hb dL_law_910 rfl (lv_at hl 3 rfl) ?_
  refine kc_ui (kx_SW (As := [.ref (ad 0), .int (xs (w + 1)), .int (xs (w + 2)), .int (bI (!(xs (w + 3) == 0))), .ref o1]) (rest := []) hx hb hml hown hG (c_L_air l hlf D cy ad ns nt nr hL M V hA (xs (w + 1)) (xs (w + 2)) (!(xs (w + 3) == 0)) o1 f1 (fun h => (hJ1 o1 h).2.2.1 rfl)) cfL_air wM_L_138 (PL.preS hG hX (hGz.at hS) hAW hN ⟨hcw, hol⟩) ⟨rfl, rfl, Nat.le_of_ble_eq_true rfl, Nat.le_of_ble_eq_true rfl⟩ rfl rfl (Nat.le_of_ble_eq_true rfl) ⟨show cells + 1 ≤ 601024 by omega, show slots + 6 ≤ 7293034 by omega⟩ dL_law_911) hS (fun q h => h.elim (fun h => (hJ1 q h).1) (fun h => Nat.le_trans hJ3 (Nat.le_of_eq h.symm))) (fun kc H1 locs hp1 z1 oq1 hS => ?_)
  obtain ⟨ek, g9, hol, hcl⟩ := hp1
  have hmw := hmw.keep oq1 (fun q hq h => h.elim (fun h => (hJ1 q h).2.1 hq) (fun h => (hJ2 q hq).2.1 h))
  have hod : oD D cy o2 f2 H1 := kP_keepA hod oq1 (fun h => h.elim (fun h => (hJ1 o2 h).2.2.2 rfl) (fun h => hJ5 h.symm))
  refine lv_istore (lv' := [(6, .int kc), (0, .ref b), (1, .ref (ad 0)), (2, .ref (md 0)), (3, .ref o1), (4, .ref o2), (5, .int (nI w))]) hx hb dL_law_914 hl (by decide) rfl (fun ls hl => ?_)
  have hml : c.maxLocals = ls.size := hml9.trans hl.1.symm
  refine lv_aload_n hx hb dL_law_916 rfl (lv_at hl 3 rfl) ?_
  refine k_arg (j := 1) (kv := 1) hx hb hXs hbl hbA hS (lv_at hl 1 rfl) (lv_at hl 6 rfl) (by omega) (by omega) (by decide) (by decide) dL_law_917 dL_law_918 dL_law_920 dL_law_921 dL_law_922 rfl ?_
  refine k_arg (j := 2) (kv := 2) hx hb hXs hbl hbA hS (lv_at hl 1 rfl) (lv_at hl 6 rfl) (by omega) (by omega) (by decide) (by decide) dL_law_923 dL_law_924 dL_law_926 dL_law_927 dL_law_928 rfl ?_
  refine k_arg (j := 3) (kv := 3) hx hb hXs hbl hbA hS (lv_at hl 1 rfl) (lv_at hl 6 rfl) (by omega) (by omega) (by decide) (by decide) dL_law_929 dL_law_930 dL_law_932 dL_law_933 dL_law_934 rfl ?_
  refine k_b2i hx hb dL_law_935 dL_law_938 dL_law_939 dL_law_942 rfl ?_
  refine kc_ui (kr_V (As := [.int (xs (w + 1)), .int (xs (w + 2)), .int (bI (!(xs (w + 3) == 0)))]) (rest := []) hx hb hml hown hG (c_X7_air l D cy md N co su hM ns nt nr hL hMN (xs (w + 1)) (xs (w + 2)) (!(xs (w + 3) == 0))) cf_X7_air wM_L_141 hmw.o rfl hmw ⟨rfl, rfl, Nat.le_of_ble_eq_true rfl, Nat.le_of_ble_eq_true rfl⟩ rfl rfl (Nat.le_of_ble_eq_true rfl) ⟨show cells + 1 + 0 ≤ 601024 by omega, show slots + 6 + 0 ≤ 7293034 by omega⟩ dL_law_943) hS (fun q h => (hJ2 q h).1) (fun r7 H2 locs hp2 z2 oq2 hS => ?_)
  have hol : oL D cy o1 g9 H2 := kP_keepA hol oq2 (fun h => (hJ2 o1 h).2.1 rfl)
  have hod : oD D cy o2 f2 H2 := kP_keepA hod oq2 (fun h => (hJ2 o2 h).2.2 rfl)
  refine lv_istore (lv' := [(7, .int r7), (6, .int kc), (0, .ref b), (1, .ref (ad 0)), (2, .ref (md 0)), (3, .ref o1), (4, .ref o2), (5, .int (nI w))]) hx hb dL_law_946 hl (by decide) rfl (fun ls hl => ?_)
  rcases hcl with ⟨hk, hcw⟩ | ⟨r, hf0, hk, i, hi, ei, er, hcw⟩
  · have hcw := hcw.keep oq2 (fun q hq h => (hJ1 q hq).2.1 h)
    rcases hp2 with ⟨k1, hmw⟩ | ⟨k1, hmw⟩ | ⟨k1, -⟩
    · exact k_tail (t := 948) (l := l) hx hb hml9 hown hG dL_law_948 dL_law_949 dL_law_952 dL_law_954 dL_law_959 dL_law_961 dL_law_964 dL_law_965 dL_law_966 dL_law_967 dL_law_969 dL_law_970 dL_law_971 dL_law_976 (by decide) hl hmw (show thr N 1 0 0 = kc from k1.symm.trans ((rfl).trans ek.symm)) hol (fun q => absurd (ek.symm.trans q) hk) (by omega) (by omega) ⟨hc, hs⟩ (fun ls1 hl1 => kk _ _ _ (LI.mk ((hR.no 1).next hn) hA hM hJ hcw hmw hol hod rfl) hS hl1)
    · exact k_tail (t := 948) (l := l) hx hb hml9 hown hG dL_law_948 dL_law_949 dL_law_952 dL_law_954 dL_law_959 dL_law_961 dL_law_964 dL_law_965 dL_law_966 dL_law_967 dL_law_969 dL_law_970 dL_law_971 dL_law_976 (by decide) hl hmw (show thr N 2 0 0 = kc from k1.symm.trans ((rfl).trans ek.symm)) hol (fun q => absurd (ek.symm.trans q) hk) (by omega) (by omega) ⟨hc, hs⟩ (fun ls1 hl1 => kk _ _ _ (LI.mk ((hR.no 2).next hn) hA hM hJ hcw hmw hol hod rfl) hS hl1)
    · exact absurd ((rfl).symm.trans k1) hk
  · have hcw := hcw.keep oq2 (fun q hq h => (hJ1 q hq).2.1 h)
    rcases hp2 with ⟨k1, -⟩ | ⟨k1, -⟩ | ⟨k1, i2, hi2, ei2, er2, hmw⟩
    · exact absurd (k1.symm.trans ((rfl).trans hk)) (show ¬ (1 : Int32) = 0 by decide)
    · exact absurd (k1.symm.trans ((rfl).trans hk)) (show ¬ (2 : Int32) = 0 by decide)
    · obtain rfl : i2 = i := (nI_eq (by omega) (by omega)).mp (ei2.symm.trans ei)
      have hq := S_air (b := (!(xs (w + 3) == 0))) (hR.no 0) hn hk hi
      exact k_tail (t := 948) (l := l) hx hb hml9 hown hG dL_law_948 dL_law_949 dL_law_952 dL_law_954 dL_law_959 dL_law_961 dL_law_964 dL_law_965 dL_law_966 dL_law_967 dL_law_969 dL_law_970 dL_law_971 dL_law_976 (by decide) hl hmw (by rw [mset_n (by omega)]; exact hk.symm.trans ek.symm) hol (fun _ => by rw [hf0, er, er2, hq.1]) (by omega) (by omega) ⟨hc, hs⟩ (fun ls1 hl1 => kk _ _ _ (LI.mk hq.2 hA hM hJ hcw hmw hol hod rfl) hS hl1)
set_option maxHeartbeats 4000000 in
set_option maxRecDepth 100000 in
theorem law_alert (l : Launch) (hlf : l.stackTraces = false) {D : va_G} {cy : Nat → ClassId} {p : Program} {e : Env} {s : State} {m : MethodId} {args : Array Value} {below : List Frame} {meth : Method} {c : Code} {b L : Nat} {xs : Nat → Int32} (hC : LC D cy p s m meth c b L xs) (hL3 : L ≤ 3072) {Q : State → Prop} {n w x m0 o1 o2 : Nat} {H : Heap} {locs : List Loc} {cells slots : Nat} {ls : Array Slot} (hI : LI D cy s.heap.size x m0 o1 o2 n H) (hn : n < 512) (hw6 : w + 6 ≤ L) (hS : va_S (fun q => s.heap.size ≤ q) s.heap H locs) (hc : cells + 51 ≤ 601024) (hs : slots + 669 ≤ 7293034) (hl : lv_has ls 9 [(0, .ref b), (1, .ref x), (2, .ref m0), (3, .ref o1), (4, .ref o2), (5, .int (nI w))])
    (kk : ∀ (H1 : Heap) (locs1 : List Loc) (ls1 : Array Slot), LI D cy s.heap.size x m0 o1 o2 (n + 1) H1 → va_S (fun q => s.heap.size ≤ q) s.heap H1 locs1 → lv_has ls1 9 [(0, .ref b), (1, .ref x), (2, .ref m0), (3, .ref o1), (4, .ref o2), (5, .int (nI w))] → W p l e room_1 s m args below meth c H1 locs1 (cells + 51) (slots + 669) Q (F0 m 1986 ls1 [])) :
    W p l e room_1 s m args below meth c H locs cells slots Q (F0 m 979 ls []) := by
  obtain ⟨⟨hx, hb, hml9, hown⟩, ⟨hG, hX, hGz, hAW, hN⟩, hXs, hbl⟩ := hC
  obtain ⟨ep, ns, nt, nr, M, N, V, co, su, ad, md, f1, f2, hR, hA, hM, hJ, hcw, hmw, hol, hod, rfl, rfl⟩ := hI
  have hbA : ¬ (fun q => s.heap.size ≤ q) b := Nat.not_le.mpr hbl
  have hL := hR.1.1
  have hL8 := hL.1
  have hLt := hL.2.1
  have hLr := hL.2.2
  have hMN := hR.2.1.2.2.1
  have hml : c.maxLocals = ls.size := hml9.trans hl.1.symm
  have hz : s.heap.size ≤ H.size := hS.1
  obtain ⟨hJ1, hJ2, hJ3, hJ4, hJ5⟩ := id hJ
  have hep : ep < 2 ^ 31 := by have := hR.1.2; omega
  have hmlt := MA.lt hmw
  have hclt := CA.lt hcw hL
  have ho1 : o1 < H.size := (hol 0 _ rfl).lt
  have ho2 : o2 < H.size := (hod 0 _ rfl).lt
  refine lv_aload_n hx hb dL_law_979 rfl (lv_at hl 1 rfl) ?_
  refine k_arg (j := 1) (kv := 1) hx hb hXs hbl hbA hS (lv_at hl 0 rfl) (lv_at hl 5 rfl) (by omega) (by omega) (by decide) (by decide) dL_law_980 dL_law_981 dL_law_983 dL_law_984 dL_law_985 rfl ?_
  refine k_arg (j := 2) (kv := 2) hx hb hXs hbl hbA hS (lv_at hl 0 rfl) (lv_at hl 5 rfl) (by omega) (by omega) (by decide) (by decide) dL_law_986 dL_law_987 dL_law_989 dL_law_990 dL_law_991 rfl ?_
  refine lv_aload_n hx hb dL_law_992 rfl (lv_at hl 3 rfl) ?_
  refine kc_ui (kx_SW (As := [.ref (ad 0), .int (xs (w + 1)), .int (xs (w + 2)), .ref o1]) (rest := []) hx hb hml hown hG (c_L_alert l hlf D cy ad ns nt nr hL M V hA (xs (w + 1)) (xs (w + 2)) o1 f1 (fun h => (hJ1 o1 h).2.2.1 rfl)) cfL_alert wM_L_142 (PL.preS hG hX (hGz.at hS) hAW hN ⟨hcw, hol⟩) ⟨rfl, rfl, Nat.le_of_ble_eq_true rfl, Nat.le_of_ble_eq_true rfl⟩ rfl rfl (Nat.le_of_ble_eq_true rfl) ⟨show cells + 1 ≤ 601024 by omega, show slots + 6 ≤ 7293034 by omega⟩ dL_law_993) hS (fun q h => h.elim (fun h => (hJ1 q h).1) (fun h => Nat.le_trans hJ3 (Nat.le_of_eq h.symm))) (fun kc H1 locs hp1 z1 oq1 hS => ?_)
  obtain ⟨ek, g9, hol, hcl⟩ := hp1
  have hmw := hmw.keep oq1 (fun q hq h => h.elim (fun h => (hJ1 q h).2.1 hq) (fun h => (hJ2 q hq).2.1 h))
  have hod : oD D cy o2 f2 H1 := kP_keepA hod oq1 (fun h => h.elim (fun h => (hJ1 o2 h).2.2.2 rfl) (fun h => hJ5 h.symm))
  refine lv_istore (lv' := [(6, .int kc), (0, .ref b), (1, .ref (ad 0)), (2, .ref (md 0)), (3, .ref o1), (4, .ref o2), (5, .int (nI w))]) hx hb dL_law_996 hl (by decide) rfl (fun ls hl => ?_)
  have hml : c.maxLocals = ls.size := hml9.trans hl.1.symm
  refine lv_aload_n hx hb dL_law_998 rfl (lv_at hl 3 rfl) ?_
  refine k_arg (j := 1) (kv := 1) hx hb hXs hbl hbA hS (lv_at hl 1 rfl) (lv_at hl 6 rfl) (by omega) (by omega) (by decide) (by decide) dL_law_999 dL_law_1000 dL_law_1002 dL_law_1003 dL_law_1004 rfl ?_
  refine k_arg (j := 2) (kv := 2) hx hb hXs hbl hbA hS (lv_at hl 1 rfl) (lv_at hl 6 rfl) (by omega) (by omega) (by decide) (by decide) dL_law_1005 dL_law_1006 dL_law_1008 dL_law_1009 dL_law_1010 rfl ?_
  refine kc_ui (kr_V (As := [.int (xs (w + 1)), .int (xs (w + 2))]) (rest := []) hx hb hml hown hG (c_X7_alert l D cy md N co su hM ns nt nr hL hMN (xs (w + 1)) (xs (w + 2))) cf_X7_alert wM_L_144 hmw.o rfl hmw ⟨rfl, rfl, Nat.le_of_ble_eq_true rfl, Nat.le_of_ble_eq_true rfl⟩ rfl rfl (Nat.le_of_ble_eq_true rfl) ⟨show cells + 1 + 0 ≤ 601024 by omega, show slots + 6 + 0 ≤ 7293034 by omega⟩ dL_law_1011) hS (fun q h => (hJ2 q h).1) (fun r7 H2 locs hp2 z2 oq2 hS => ?_)
  have hol : oL D cy o1 g9 H2 := kP_keepA hol oq2 (fun h => (hJ2 o1 h).2.1 rfl)
  have hod : oD D cy o2 f2 H2 := kP_keepA hod oq2 (fun h => (hJ2 o2 h).2.2 rfl)
  refine lv_istore (lv' := [(7, .int r7), (6, .int kc), (0, .ref b), (1, .ref (ad 0)), (2, .ref (md 0)), (3, .ref o1), (4, .ref o2), (5, .int (nI w))]) hx hb dL_law_1014 hl (by decide) rfl (fun ls hl => ?_)
  rcases hcl with ⟨hk, hcw⟩ | ⟨r, hf0, hk, i, hi, ei, er, hcw⟩
  · have hcw := hcw.keep oq2 (fun q hq h => (hJ1 q hq).2.1 h)
    rcases hp2 with ⟨k1, hmw⟩ | ⟨k1, hmw⟩ | ⟨k1, -⟩
    · exact k_tail (t := 1016) (l := l) hx hb hml9 hown hG dL_law_1016 dL_law_1017 dL_law_1020 dL_law_1022 dL_law_1027 dL_law_1029 dL_law_1032 dL_law_1033 dL_law_1034 dL_law_1035 dL_law_1037 dL_law_1038 dL_law_1039 dL_law_1044 (by decide) hl hmw (show thr N 1 0 0 = kc from k1.symm.trans ((rfl).trans ek.symm)) hol (fun q => absurd (ek.symm.trans q) hk) (by omega) (by omega) ⟨hc, hs⟩ (fun ls1 hl1 => kk _ _ _ (LI.mk ((hR.no 1).next hn) hA hM hJ hcw hmw hol hod rfl) hS hl1)
    · exact k_tail (t := 1016) (l := l) hx hb hml9 hown hG dL_law_1016 dL_law_1017 dL_law_1020 dL_law_1022 dL_law_1027 dL_law_1029 dL_law_1032 dL_law_1033 dL_law_1034 dL_law_1035 dL_law_1037 dL_law_1038 dL_law_1039 dL_law_1044 (by decide) hl hmw (show thr N 2 0 0 = kc from k1.symm.trans ((rfl).trans ek.symm)) hol (fun q => absurd (ek.symm.trans q) hk) (by omega) (by omega) ⟨hc, hs⟩ (fun ls1 hl1 => kk _ _ _ (LI.mk ((hR.no 2).next hn) hA hM hJ hcw hmw hol hod rfl) hS hl1)
    · exact absurd ((rfl).symm.trans k1) hk
  · have hcw := hcw.keep oq2 (fun q hq h => (hJ1 q hq).2.1 h)
    rcases hp2 with ⟨k1, -⟩ | ⟨k1, -⟩ | ⟨k1, i2, hi2, ei2, er2, hmw⟩
    · exact absurd (k1.symm.trans ((rfl).trans hk)) (show ¬ (1 : Int32) = 0 by decide)
    · exact absurd (k1.symm.trans ((rfl).trans hk)) (show ¬ (2 : Int32) = 0 by decide)
    · obtain rfl : i2 = i := (nI_eq (by omega) (by omega)).mp (ei2.symm.trans ei)
      have hq := S_alert (w := (xs (w + 2))) (hR.no 0) hn hi
      exact k_tail (t := 1016) (l := l) hx hb hml9 hown hG dL_law_1016 dL_law_1017 dL_law_1020 dL_law_1022 dL_law_1027 dL_law_1029 dL_law_1032 dL_law_1033 dL_law_1034 dL_law_1035 dL_law_1037 dL_law_1038 dL_law_1039 dL_law_1044 (by decide) hl hmw (by rw [mset_n (by omega)]; exact hk.symm.trans ek.symm) hol (fun _ => by rw [hf0, er, er2, hq.1]) (by omega) (by omega) ⟨hc, hs⟩ (fun ls1 hl1 => kk _ _ _ (LI.mk hq.2 hA hM hJ hcw hmw hol hod rfl) hS hl1)
set_option maxHeartbeats 4000000 in
set_option maxRecDepth 100000 in
theorem law_spoof (l : Launch) (hlf : l.stackTraces = false) {D : va_G} {cy : Nat → ClassId} {p : Program} {e : Env} {s : State} {m : MethodId} {args : Array Value} {below : List Frame} {meth : Method} {c : Code} {b L : Nat} {xs : Nat → Int32} (hC : LC D cy p s m meth c b L xs) (hL3 : L ≤ 3072) {Q : State → Prop} {n w x m0 o1 o2 : Nat} {H : Heap} {locs : List Loc} {cells slots : Nat} {ls : Array Slot} (hI : LI D cy s.heap.size x m0 o1 o2 n H) (hn : n < 512) (hw6 : w + 6 ≤ L) (hS : va_S (fun q => s.heap.size ≤ q) s.heap H locs) (hc : cells + 51 ≤ 601024) (hs : slots + 669 ≤ 7293034) (hl : lv_has ls 9 [(0, .ref b), (1, .ref x), (2, .ref m0), (3, .ref o1), (4, .ref o2), (5, .int (nI w))])
    (kk : ∀ (H1 : Heap) (locs1 : List Loc) (ls1 : Array Slot), LI D cy s.heap.size x m0 o1 o2 (n + 1) H1 → va_S (fun q => s.heap.size ≤ q) s.heap H1 locs1 → lv_has ls1 9 [(0, .ref b), (1, .ref x), (2, .ref m0), (3, .ref o1), (4, .ref o2), (5, .int (nI w))] → W p l e room_1 s m args below meth c H1 locs1 (cells + 51) (slots + 669) Q (F0 m 1986 ls1 [])) :
    W p l e room_1 s m args below meth c H locs cells slots Q (F0 m 1047 ls []) := by
  obtain ⟨⟨hx, hb, hml9, hown⟩, ⟨hG, hX, hGz, hAW, hN⟩, hXs, hbl⟩ := hC
  obtain ⟨ep, ns, nt, nr, M, N, V, co, su, ad, md, f1, f2, hR, hA, hM, hJ, hcw, hmw, hol, hod, rfl, rfl⟩ := hI
  have hbA : ¬ (fun q => s.heap.size ≤ q) b := Nat.not_le.mpr hbl
  have hL := hR.1.1
  have hL8 := hL.1
  have hLt := hL.2.1
  have hLr := hL.2.2
  have hMN := hR.2.1.2.2.1
  have hml : c.maxLocals = ls.size := hml9.trans hl.1.symm
  have hz : s.heap.size ≤ H.size := hS.1
  obtain ⟨hJ1, hJ2, hJ3, hJ4, hJ5⟩ := id hJ
  have hep : ep < 2 ^ 31 := by have := hR.1.2; omega
  have hmlt := MA.lt hmw
  have hclt := CA.lt hcw hL
  have ho1 : o1 < H.size := (hol 0 _ rfl).lt
  have ho2 : o2 < H.size := (hod 0 _ rfl).lt
  refine lv_aload_n hx hb dL_law_1047 rfl (lv_at hl 1 rfl) ?_
  refine k_arg (j := 1) (kv := 1) hx hb hXs hbl hbA hS (lv_at hl 0 rfl) (lv_at hl 5 rfl) (by omega) (by omega) (by decide) (by decide) dL_law_1048 dL_law_1049 dL_law_1051 dL_law_1052 dL_law_1053 rfl ?_
  refine k_arg (j := 2) (kv := 2) hx hb hXs hbl hbA hS (lv_at hl 0 rfl) (lv_at hl 5 rfl) (by omega) (by omega) (by decide) (by decide) dL_law_1054 dL_law_1055 dL_law_1057 dL_law_1058 dL_law_1059 rfl ?_
  refine lv_aload_n hx hb dL_law_1060 rfl (lv_at hl 3 rfl) ?_
  refine kc_ui (kx_SW (As := [.ref (ad 0), .int (xs (w + 1)), .int (xs (w + 2)), .ref o1]) (rest := []) hx hb hml hown hG (c_L_spoof l hlf D cy ad ns nt nr hL M V hA (xs (w + 1)) (xs (w + 2)) o1 f1 (fun h => (hJ1 o1 h).2.2.1 rfl)) cfL_spoof wM_L_145 (PL.preS hG hX (hGz.at hS) hAW hN ⟨hcw, hol⟩) ⟨rfl, rfl, Nat.le_of_ble_eq_true rfl, Nat.le_of_ble_eq_true rfl⟩ rfl rfl (Nat.le_of_ble_eq_true rfl) ⟨show cells + 1 ≤ 601024 by omega, show slots + 6 ≤ 7293034 by omega⟩ dL_law_1061) hS (fun q h => h.elim (fun h => (hJ1 q h).1) (fun h => Nat.le_trans hJ3 (Nat.le_of_eq h.symm))) (fun kc H1 locs hp1 z1 oq1 hS => ?_)
  obtain ⟨ek, g9, hol, hcl⟩ := hp1
  have hmw := hmw.keep oq1 (fun q hq h => h.elim (fun h => (hJ1 q h).2.1 hq) (fun h => (hJ2 q hq).2.1 h))
  have hod : oD D cy o2 f2 H1 := kP_keepA hod oq1 (fun h => h.elim (fun h => (hJ1 o2 h).2.2.2 rfl) (fun h => hJ5 h.symm))
  refine lv_istore (lv' := [(6, .int kc), (0, .ref b), (1, .ref (ad 0)), (2, .ref (md 0)), (3, .ref o1), (4, .ref o2), (5, .int (nI w))]) hx hb dL_law_1064 hl (by decide) rfl (fun ls hl => ?_)
  have hml : c.maxLocals = ls.size := hml9.trans hl.1.symm
  refine lv_aload_n hx hb dL_law_1066 rfl (lv_at hl 3 rfl) ?_
  refine k_arg (j := 1) (kv := 1) hx hb hXs hbl hbA hS (lv_at hl 1 rfl) (lv_at hl 6 rfl) (by omega) (by omega) (by decide) (by decide) dL_law_1067 dL_law_1068 dL_law_1070 dL_law_1071 dL_law_1072 rfl ?_
  refine k_arg (j := 2) (kv := 2) hx hb hXs hbl hbA hS (lv_at hl 1 rfl) (lv_at hl 6 rfl) (by omega) (by omega) (by decide) (by decide) dL_law_1073 dL_law_1074 dL_law_1076 dL_law_1077 dL_law_1078 rfl ?_
  refine kc_ui (kr_V (As := [.int (xs (w + 1)), .int (xs (w + 2))]) (rest := []) hx hb hml hown hG (c_X7_spoof l D cy md N co su hM ns nt nr hL hMN (xs (w + 1)) (xs (w + 2))) cf_X7_spoof wM_L_147 hmw.o rfl hmw ⟨rfl, rfl, Nat.le_of_ble_eq_true rfl, Nat.le_of_ble_eq_true rfl⟩ rfl rfl (Nat.le_of_ble_eq_true rfl) ⟨show cells + 1 + 0 ≤ 601024 by omega, show slots + 6 + 0 ≤ 7293034 by omega⟩ dL_law_1079) hS (fun q h => (hJ2 q h).1) (fun r7 H2 locs hp2 z2 oq2 hS => ?_)
  have hol : oL D cy o1 g9 H2 := kP_keepA hol oq2 (fun h => (hJ2 o1 h).2.1 rfl)
  have hod : oD D cy o2 f2 H2 := kP_keepA hod oq2 (fun h => (hJ2 o2 h).2.2 rfl)
  refine lv_istore (lv' := [(7, .int r7), (6, .int kc), (0, .ref b), (1, .ref (ad 0)), (2, .ref (md 0)), (3, .ref o1), (4, .ref o2), (5, .int (nI w))]) hx hb dL_law_1082 hl (by decide) rfl (fun ls hl => ?_)
  rcases hcl with ⟨hk, hcw⟩ | ⟨r, hf0, hk, i, hi, ei, er, hcw⟩
  · have hcw := hcw.keep oq2 (fun q hq h => (hJ1 q hq).2.1 h)
    rcases hp2 with ⟨k1, hmw⟩ | ⟨k1, hmw⟩ | ⟨k1, -⟩
    · exact k_tail (t := 1084) (l := l) hx hb hml9 hown hG dL_law_1084 dL_law_1085 dL_law_1088 dL_law_1090 dL_law_1095 dL_law_1097 dL_law_1100 dL_law_1101 dL_law_1102 dL_law_1103 dL_law_1105 dL_law_1106 dL_law_1107 dL_law_1112 (by decide) hl hmw (show thr N 1 0 0 = kc from k1.symm.trans ((rfl).trans ek.symm)) hol (fun q => absurd (ek.symm.trans q) hk) (by omega) (by omega) ⟨hc, hs⟩ (fun ls1 hl1 => kk _ _ _ (LI.mk ((hR.no 1).next hn) hA hM hJ hcw hmw hol hod rfl) hS hl1)
    · exact k_tail (t := 1084) (l := l) hx hb hml9 hown hG dL_law_1084 dL_law_1085 dL_law_1088 dL_law_1090 dL_law_1095 dL_law_1097 dL_law_1100 dL_law_1101 dL_law_1102 dL_law_1103 dL_law_1105 dL_law_1106 dL_law_1107 dL_law_1112 (by decide) hl hmw (show thr N 2 0 0 = kc from k1.symm.trans ((rfl).trans ek.symm)) hol (fun q => absurd (ek.symm.trans q) hk) (by omega) (by omega) ⟨hc, hs⟩ (fun ls1 hl1 => kk _ _ _ (LI.mk ((hR.no 2).next hn) hA hM hJ hcw hmw hol hod rfl) hS hl1)
    · exact absurd ((rfl).symm.trans k1) hk
  · have hcw := hcw.keep oq2 (fun q hq h => (hJ1 q hq).2.1 h)
    rcases hp2 with ⟨k1, -⟩ | ⟨k1, -⟩ | ⟨k1, i2, hi2, ei2, er2, hmw⟩
    · exact absurd (k1.symm.trans ((rfl).trans hk)) (show ¬ (1 : Int32) = 0 by decide)
    · exact absurd (k1.symm.trans ((rfl).trans hk)) (show ¬ (2 : Int32) = 0 by decide)
    · obtain rfl : i2 = i := (nI_eq (by omega) (by omega)).mp (ei2.symm.trans ei)
      have hq := S_spoof (hR.no 0) hn hk hi
      exact k_tail (t := 1084) (l := l) hx hb hml9 hown hG dL_law_1084 dL_law_1085 dL_law_1088 dL_law_1090 dL_law_1095 dL_law_1097 dL_law_1100 dL_law_1101 dL_law_1102 dL_law_1103 dL_law_1105 dL_law_1106 dL_law_1107 dL_law_1112 (by decide) hl hmw (by rw [mset_n (by omega)]; exact hk.symm.trans ek.symm) hol (fun _ => by rw [hf0, er, er2, hq.1]) (by omega) (by omega) ⟨hc, hs⟩ (fun ls1 hl1 => kk _ _ _ (LI.mk hq.2 hA hM hJ hcw hmw hol hod rfl) hS hl1)
set_option maxHeartbeats 4000000 in
set_option maxRecDepth 100000 in
theorem law_refer (l : Launch) (hlf : l.stackTraces = false) {D : va_G} {cy : Nat → ClassId} {p : Program} {e : Env} {s : State} {m : MethodId} {args : Array Value} {below : List Frame} {meth : Method} {c : Code} {b L : Nat} {xs : Nat → Int32} (hC : LC D cy p s m meth c b L xs) (hL3 : L ≤ 3072) {Q : State → Prop} {n w x m0 o1 o2 : Nat} {H : Heap} {locs : List Loc} {cells slots : Nat} {ls : Array Slot} (hI : LI D cy s.heap.size x m0 o1 o2 n H) (hn : n < 512) (hw6 : w + 6 ≤ L) (hS : va_S (fun q => s.heap.size ≤ q) s.heap H locs) (hc : cells + 51 ≤ 601024) (hs : slots + 669 ≤ 7293034) (hl : lv_has ls 9 [(0, .ref b), (1, .ref x), (2, .ref m0), (3, .ref o1), (4, .ref o2), (5, .int (nI w))])
    (kk : ∀ (H1 : Heap) (locs1 : List Loc) (ls1 : Array Slot), LI D cy s.heap.size x m0 o1 o2 (n + 1) H1 → va_S (fun q => s.heap.size ≤ q) s.heap H1 locs1 → lv_has ls1 9 [(0, .ref b), (1, .ref x), (2, .ref m0), (3, .ref o1), (4, .ref o2), (5, .int (nI w))] → W p l e room_1 s m args below meth c H1 locs1 (cells + 51) (slots + 669) Q (F0 m 1986 ls1 [])) :
    W p l e room_1 s m args below meth c H locs cells slots Q (F0 m 1115 ls []) := by
  obtain ⟨⟨hx, hb, hml9, hown⟩, ⟨hG, hX, hGz, hAW, hN⟩, hXs, hbl⟩ := hC
  obtain ⟨ep, ns, nt, nr, M, N, V, co, su, ad, md, f1, f2, hR, hA, hM, hJ, hcw, hmw, hol, hod, rfl, rfl⟩ := hI
  have hbA : ¬ (fun q => s.heap.size ≤ q) b := Nat.not_le.mpr hbl
  have hL := hR.1.1
  have hL8 := hL.1
  have hLt := hL.2.1
  have hLr := hL.2.2
  have hMN := hR.2.1.2.2.1
  have hml : c.maxLocals = ls.size := hml9.trans hl.1.symm
  have hz : s.heap.size ≤ H.size := hS.1
  obtain ⟨hJ1, hJ2, hJ3, hJ4, hJ5⟩ := id hJ
  have hep : ep < 2 ^ 31 := by have := hR.1.2; omega
  have hmlt := MA.lt hmw
  have hclt := CA.lt hcw hL
  have ho1 : o1 < H.size := (hol 0 _ rfl).lt
  have ho2 : o2 < H.size := (hod 0 _ rfl).lt
  refine lv_aload_n hx hb dL_law_1115 rfl (lv_at hl 1 rfl) ?_
  refine k_arg (j := 1) (kv := 1) hx hb hXs hbl hbA hS (lv_at hl 0 rfl) (lv_at hl 5 rfl) (by omega) (by omega) (by decide) (by decide) dL_law_1116 dL_law_1117 dL_law_1119 dL_law_1120 dL_law_1121 rfl ?_
  refine k_arg (j := 2) (kv := 2) hx hb hXs hbl hbA hS (lv_at hl 0 rfl) (lv_at hl 5 rfl) (by omega) (by omega) (by decide) (by decide) dL_law_1122 dL_law_1123 dL_law_1125 dL_law_1126 dL_law_1127 rfl ?_
  refine lv_aload_n hx hb dL_law_1128 rfl (lv_at hl 3 rfl) ?_
  refine kc_ui (kx_SW (As := [.ref (ad 0), .int (xs (w + 1)), .int (xs (w + 2)), .ref o1]) (rest := []) hx hb hml hown hG (c_L_refer l hlf D cy ad ns nt nr hL M V hA (xs (w + 1)) (xs (w + 2)) o1 f1 (fun h => (hJ1 o1 h).2.2.1 rfl)) cfL_refer wM_L_148 (PL.preS hG hX (hGz.at hS) hAW hN ⟨hcw, hol⟩) ⟨rfl, rfl, Nat.le_of_ble_eq_true rfl, Nat.le_of_ble_eq_true rfl⟩ rfl rfl (Nat.le_of_ble_eq_true rfl) ⟨show cells + 1 ≤ 601024 by omega, show slots + 6 ≤ 7293034 by omega⟩ dL_law_1129) hS (fun q h => h.elim (fun h => (hJ1 q h).1) (fun h => Nat.le_trans hJ3 (Nat.le_of_eq h.symm))) (fun kc H1 locs hp1 z1 oq1 hS => ?_)
  obtain ⟨ek, g9, hol, hcl⟩ := hp1
  have hmw := hmw.keep oq1 (fun q hq h => h.elim (fun h => (hJ1 q h).2.1 hq) (fun h => (hJ2 q hq).2.1 h))
  have hod : oD D cy o2 f2 H1 := kP_keepA hod oq1 (fun h => h.elim (fun h => (hJ1 o2 h).2.2.2 rfl) (fun h => hJ5 h.symm))
  refine lv_istore (lv' := [(6, .int kc), (0, .ref b), (1, .ref (ad 0)), (2, .ref (md 0)), (3, .ref o1), (4, .ref o2), (5, .int (nI w))]) hx hb dL_law_1132 hl (by decide) rfl (fun ls hl => ?_)
  have hml : c.maxLocals = ls.size := hml9.trans hl.1.symm
  refine lv_aload_n hx hb dL_law_1134 rfl (lv_at hl 3 rfl) ?_
  refine k_arg (j := 1) (kv := 1) hx hb hXs hbl hbA hS (lv_at hl 1 rfl) (lv_at hl 6 rfl) (by omega) (by omega) (by decide) (by decide) dL_law_1135 dL_law_1136 dL_law_1138 dL_law_1139 dL_law_1140 rfl ?_
  refine k_arg (j := 2) (kv := 2) hx hb hXs hbl hbA hS (lv_at hl 1 rfl) (lv_at hl 6 rfl) (by omega) (by omega) (by decide) (by decide) dL_law_1141 dL_law_1142 dL_law_1144 dL_law_1145 dL_law_1146 rfl ?_
  refine kc_ui (kr_V (As := [.int (xs (w + 1)), .int (xs (w + 2))]) (rest := []) hx hb hml hown hG (c_X7_refer l D cy md N co su hM ns nt nr hL hMN (xs (w + 1)) (xs (w + 2))) cf_X7_refer wM_L_150 hmw.o rfl hmw ⟨rfl, rfl, Nat.le_of_ble_eq_true rfl, Nat.le_of_ble_eq_true rfl⟩ rfl rfl (Nat.le_of_ble_eq_true rfl) ⟨show cells + 1 + 0 ≤ 601024 by omega, show slots + 6 + 0 ≤ 7293034 by omega⟩ dL_law_1147) hS (fun q h => (hJ2 q h).1) (fun r7 H2 locs hp2 z2 oq2 hS => ?_)
  have hol : oL D cy o1 g9 H2 := kP_keepA hol oq2 (fun h => (hJ2 o1 h).2.1 rfl)
  have hod : oD D cy o2 f2 H2 := kP_keepA hod oq2 (fun h => (hJ2 o2 h).2.2 rfl)
  refine lv_istore (lv' := [(7, .int r7), (6, .int kc), (0, .ref b), (1, .ref (ad 0)), (2, .ref (md 0)), (3, .ref o1), (4, .ref o2), (5, .int (nI w))]) hx hb dL_law_1150 hl (by decide) rfl (fun ls hl => ?_)
  rcases hcl with ⟨hk, hcw⟩ | ⟨r, hf0, hk, i, hi, ei, er, hcw⟩
  · have hcw := hcw.keep oq2 (fun q hq h => (hJ1 q hq).2.1 h)
    rcases hp2 with ⟨k1, hmw⟩ | ⟨k1, hmw⟩ | ⟨k1, -⟩
    · exact k_tail (t := 1152) (l := l) hx hb hml9 hown hG dL_law_1152 dL_law_1153 dL_law_1156 dL_law_1158 dL_law_1163 dL_law_1165 dL_law_1168 dL_law_1169 dL_law_1170 dL_law_1171 dL_law_1173 dL_law_1174 dL_law_1175 dL_law_1180 (by decide) hl hmw (show thr N 1 0 0 = kc from k1.symm.trans ((rfl).trans ek.symm)) hol (fun q => absurd (ek.symm.trans q) hk) (by omega) (by omega) ⟨hc, hs⟩ (fun ls1 hl1 => kk _ _ _ (LI.mk ((hR.no 1).next hn) hA hM hJ hcw hmw hol hod rfl) hS hl1)
    · exact k_tail (t := 1152) (l := l) hx hb hml9 hown hG dL_law_1152 dL_law_1153 dL_law_1156 dL_law_1158 dL_law_1163 dL_law_1165 dL_law_1168 dL_law_1169 dL_law_1170 dL_law_1171 dL_law_1173 dL_law_1174 dL_law_1175 dL_law_1180 (by decide) hl hmw (show thr N 2 0 0 = kc from k1.symm.trans ((rfl).trans ek.symm)) hol (fun q => absurd (ek.symm.trans q) hk) (by omega) (by omega) ⟨hc, hs⟩ (fun ls1 hl1 => kk _ _ _ (LI.mk ((hR.no 2).next hn) hA hM hJ hcw hmw hol hod rfl) hS hl1)
    · exact absurd ((rfl).symm.trans k1) hk
  · have hcw := hcw.keep oq2 (fun q hq h => (hJ1 q hq).2.1 h)
    rcases hp2 with ⟨k1, -⟩ | ⟨k1, -⟩ | ⟨k1, i2, hi2, ei2, er2, hmw⟩
    · exact absurd (k1.symm.trans ((rfl).trans hk)) (show ¬ (1 : Int32) = 0 by decide)
    · exact absurd (k1.symm.trans ((rfl).trans hk)) (show ¬ (2 : Int32) = 0 by decide)
    · obtain rfl : i2 = i := (nI_eq (by omega) (by omega)).mp (ei2.symm.trans ei)
      have hq := S_refer (hR.no 0) hn (y := (xs (w + 2))) (by rw [← ei]; exact hk) hi
      exact k_tail (t := 1152) (l := l) hx hb hml9 hown hG dL_law_1152 dL_law_1153 dL_law_1156 dL_law_1158 dL_law_1163 dL_law_1165 dL_law_1168 dL_law_1169 dL_law_1170 dL_law_1171 dL_law_1173 dL_law_1174 dL_law_1175 dL_law_1180 (by decide) hl hmw (by rw [mset_n (by omega)]; exact hk.symm.trans ek.symm) hol (fun _ => by rw [hf0, er, er2, hq.1]) (by omega) (by omega) ⟨hc, hs⟩ (fun ls1 hl1 => kk _ _ _ (LI.mk hq.2 hA hM hJ hcw hmw hol hod rfl) hS hl1)
set_option maxHeartbeats 4000000 in
set_option maxRecDepth 100000 in
theorem law_pass (l : Launch) (hlf : l.stackTraces = false) {D : va_G} {cy : Nat → ClassId} {p : Program} {e : Env} {s : State} {m : MethodId} {args : Array Value} {below : List Frame} {meth : Method} {c : Code} {b L : Nat} {xs : Nat → Int32} (hC : LC D cy p s m meth c b L xs) (hL3 : L ≤ 3072) {Q : State → Prop} {n w x m0 o1 o2 : Nat} {H : Heap} {locs : List Loc} {cells slots : Nat} {ls : Array Slot} (hI : LI D cy s.heap.size x m0 o1 o2 n H) (hn : n < 512) (hw6 : w + 6 ≤ L) (hS : va_S (fun q => s.heap.size ≤ q) s.heap H locs) (hc : cells + 51 ≤ 601024) (hs : slots + 669 ≤ 7293034) (hl : lv_has ls 9 [(0, .ref b), (1, .ref x), (2, .ref m0), (3, .ref o1), (4, .ref o2), (5, .int (nI w))])
    (kk : ∀ (H1 : Heap) (locs1 : List Loc) (ls1 : Array Slot), LI D cy s.heap.size x m0 o1 o2 (n + 1) H1 → va_S (fun q => s.heap.size ≤ q) s.heap H1 locs1 → lv_has ls1 9 [(0, .ref b), (1, .ref x), (2, .ref m0), (3, .ref o1), (4, .ref o2), (5, .int (nI w))] → W p l e room_1 s m args below meth c H1 locs1 (cells + 51) (slots + 669) Q (F0 m 1986 ls1 [])) :
    W p l e room_1 s m args below meth c H locs cells slots Q (F0 m 1183 ls []) := by
  obtain ⟨⟨hx, hb, hml9, hown⟩, ⟨hG, hX, hGz, hAW, hN⟩, hXs, hbl⟩ := hC
  obtain ⟨ep, ns, nt, nr, M, N, V, co, su, ad, md, f1, f2, hR, hA, hM, hJ, hcw, hmw, hol, hod, rfl, rfl⟩ := hI
  have hbA : ¬ (fun q => s.heap.size ≤ q) b := Nat.not_le.mpr hbl
  have hL := hR.1.1
  have hL8 := hL.1
  have hLt := hL.2.1
  have hLr := hL.2.2
  have hMN := hR.2.1.2.2.1
  have hml : c.maxLocals = ls.size := hml9.trans hl.1.symm
  have hz : s.heap.size ≤ H.size := hS.1
  obtain ⟨hJ1, hJ2, hJ3, hJ4, hJ5⟩ := id hJ
  have hep : ep < 2 ^ 31 := by have := hR.1.2; omega
  have hmlt := MA.lt hmw
  have hclt := CA.lt hcw hL
  have ho1 : o1 < H.size := (hol 0 _ rfl).lt
  have ho2 : o2 < H.size := (hod 0 _ rfl).lt
  refine lv_aload_n hx hb dL_law_1183 rfl (lv_at hl 1 rfl) ?_
  refine k_arg (j := 1) (kv := 1) hx hb hXs hbl hbA hS (lv_at hl 0 rfl) (lv_at hl 5 rfl) (by omega) (by omega) (by decide) (by decide) dL_law_1184 dL_law_1185 dL_law_1187 dL_law_1188 dL_law_1189 rfl ?_
  refine lv_aload_n hx hb dL_law_1190 rfl (lv_at hl 3 rfl) ?_
  refine kc_ui (kx_SW (As := [.ref (ad 0), .int (xs (w + 1)), .ref o1]) (rest := []) hx hb hml hown hG (c_L_pass l hlf D cy ad ns nt nr hL M V hA (xs (w + 1)) o1 f1 (fun h => (hJ1 o1 h).2.2.1 rfl)) cfL_pass wM_L_151 (PL.preS hG hX (hGz.at hS) hAW hN ⟨hcw, hol⟩) ⟨rfl, rfl, Nat.le_of_ble_eq_true rfl, Nat.le_of_ble_eq_true rfl⟩ rfl rfl (Nat.le_of_ble_eq_true rfl) ⟨show cells + 1 ≤ 601024 by omega, show slots + 6 ≤ 7293034 by omega⟩ dL_law_1191) hS (fun q h => h.elim (fun h => (hJ1 q h).1) (fun h => Nat.le_trans hJ3 (Nat.le_of_eq h.symm))) (fun kc H1 locs hp1 z1 oq1 hS => ?_)
  obtain ⟨ek, g9, hol, hcl⟩ := hp1
  have hmw := hmw.keep oq1 (fun q hq h => h.elim (fun h => (hJ1 q h).2.1 hq) (fun h => (hJ2 q hq).2.1 h))
  have hod : oD D cy o2 f2 H1 := kP_keepA hod oq1 (fun h => h.elim (fun h => (hJ1 o2 h).2.2.2 rfl) (fun h => hJ5 h.symm))
  refine lv_istore (lv' := [(6, .int kc), (0, .ref b), (1, .ref (ad 0)), (2, .ref (md 0)), (3, .ref o1), (4, .ref o2), (5, .int (nI w))]) hx hb dL_law_1194 hl (by decide) rfl (fun ls hl => ?_)
  have hml : c.maxLocals = ls.size := hml9.trans hl.1.symm
  refine lv_aload_n hx hb dL_law_1196 rfl (lv_at hl 3 rfl) ?_
  refine k_arg (j := 1) (kv := 1) hx hb hXs hbl hbA hS (lv_at hl 1 rfl) (lv_at hl 6 rfl) (by omega) (by omega) (by decide) (by decide) dL_law_1197 dL_law_1198 dL_law_1200 dL_law_1201 dL_law_1202 rfl ?_
  refine kc_ui (kr_V (As := [.int (xs (w + 1))]) (rest := []) hx hb hml hown hG (c_X7_pass l D cy md N co su hM ns nt nr hL hMN (xs (w + 1))) cf_X7_pass wM_L_154 hmw.o rfl hmw ⟨rfl, rfl, Nat.le_of_ble_eq_true rfl, Nat.le_of_ble_eq_true rfl⟩ rfl rfl (Nat.le_of_ble_eq_true rfl) ⟨show cells + 1 + 0 ≤ 601024 by omega, show slots + 6 + 0 ≤ 7293034 by omega⟩ dL_law_1203) hS (fun q h => (hJ2 q h).1) (fun r7 H2 locs hp2 z2 oq2 hS => ?_)
  have hol : oL D cy o1 g9 H2 := kP_keepA hol oq2 (fun h => (hJ2 o1 h).2.1 rfl)
  have hod : oD D cy o2 f2 H2 := kP_keepA hod oq2 (fun h => (hJ2 o2 h).2.2 rfl)
  refine lv_istore (lv' := [(7, .int r7), (6, .int kc), (0, .ref b), (1, .ref (ad 0)), (2, .ref (md 0)), (3, .ref o1), (4, .ref o2), (5, .int (nI w))]) hx hb dL_law_1206 hl (by decide) rfl (fun ls hl => ?_)
  rcases hcl with ⟨hk, hcw⟩ | ⟨r, hf0, hk, k, hk8, ei, er, hcw⟩
  · have hcw := hcw.keep oq2 (fun q hq h => (hJ1 q hq).2.1 h)
    rcases hp2 with ⟨k1, hmw⟩ | ⟨k1, hmw⟩ | ⟨k1, -⟩
    · exact k_tail (t := 1208) (l := l) hx hb hml9 hown hG dL_law_1208 dL_law_1209 dL_law_1212 dL_law_1214 dL_law_1219 dL_law_1221 dL_law_1224 dL_law_1225 dL_law_1226 dL_law_1227 dL_law_1229 dL_law_1230 dL_law_1231 dL_law_1236 (by decide) hl hmw (show thr N 1 0 0 = kc from k1.symm.trans ((rfl).trans ek.symm)) hol (fun q => absurd (ek.symm.trans q) hk) (by omega) (by omega) ⟨hc, hs⟩ (fun ls1 hl1 => kk _ _ _ (LI.mk ((hR.no 1).next hn) hA hM hJ hcw hmw hol hod rfl) hS hl1)
    · exact k_tail (t := 1208) (l := l) hx hb hml9 hown hG dL_law_1208 dL_law_1209 dL_law_1212 dL_law_1214 dL_law_1219 dL_law_1221 dL_law_1224 dL_law_1225 dL_law_1226 dL_law_1227 dL_law_1229 dL_law_1230 dL_law_1231 dL_law_1236 (by decide) hl hmw (show thr N 2 0 0 = kc from k1.symm.trans ((rfl).trans ek.symm)) hol (fun q => absurd (ek.symm.trans q) hk) (by omega) (by omega) ⟨hc, hs⟩ (fun ls1 hl1 => kk _ _ _ (LI.mk ((hR.no 2).next hn) hA hM hJ hcw hmw hol hod rfl) hS hl1)
    · exact absurd ((rfl).symm.trans k1) hk
  · have hcw := hcw.keep oq2 (fun q hq h => (hJ1 q hq).2.1 h)
    rcases hp2 with ⟨k1, -⟩ | ⟨k1, -⟩ | ⟨k1, k2, hk2, ei2, er2, hmw⟩
    · exact absurd (k1.symm.trans ((rfl).trans hk)) (show ¬ (1 : Int32) = 0 by decide)
    · exact absurd (k1.symm.trans ((rfl).trans hk)) (show ¬ (2 : Int32) = 0 by decide)
    · obtain rfl : k2 = k := (nI_eq (by omega) (by omega)).mp (ei2.symm.trans ei)
      have hq := S_pass (hR.no 0) hn hk2
      exact k_tail (t := 1208) (l := l) hx hb hml9 hown hG dL_law_1208 dL_law_1209 dL_law_1212 dL_law_1214 dL_law_1219 dL_law_1221 dL_law_1224 dL_law_1225 dL_law_1226 dL_law_1227 dL_law_1229 dL_law_1230 dL_law_1231 dL_law_1236 (by decide) hl hmw (by rw [mP_00]; exact hk.symm.trans ek.symm) hol (fun _ => by rw [hf0, er, er2, hq.1]) (by omega) (by omega) ⟨hc, hs⟩ (fun ls1 hl1 => kk _ _ _ (LI.mk hq.2 hA hM hJ hcw hmw hol hod rfl) hS hl1)
set_option maxHeartbeats 4000000 in
set_option maxRecDepth 100000 in
theorem law_observe (l : Launch) (hlf : l.stackTraces = false) {D : va_G} {cy : Nat → ClassId} {p : Program} {e : Env} {s : State} {m : MethodId} {args : Array Value} {below : List Frame} {meth : Method} {c : Code} {b L : Nat} {xs : Nat → Int32} (hC : LC D cy p s m meth c b L xs) (hL3 : L ≤ 3072) {Q : State → Prop} {n w x m0 o1 o2 : Nat} {H : Heap} {locs : List Loc} {cells slots : Nat} {ls : Array Slot} (hI : LI D cy s.heap.size x m0 o1 o2 n H) (hn : n < 512) (hw6 : w + 6 ≤ L) (hS : va_S (fun q => s.heap.size ≤ q) s.heap H locs) (hc : cells + 51 ≤ 601024) (hs : slots + 669 ≤ 7293034) (hl : lv_has ls 9 [(0, .ref b), (1, .ref x), (2, .ref m0), (3, .ref o1), (4, .ref o2), (5, .int (nI w))])
    (kk : ∀ (H1 : Heap) (locs1 : List Loc) (ls1 : Array Slot), LI D cy s.heap.size x m0 o1 o2 (n + 1) H1 → va_S (fun q => s.heap.size ≤ q) s.heap H1 locs1 → lv_has ls1 9 [(0, .ref b), (1, .ref x), (2, .ref m0), (3, .ref o1), (4, .ref o2), (5, .int (nI w))] → W p l e room_1 s m args below meth c H1 locs1 (cells + 51) (slots + 669) Q (F0 m 1986 ls1 [])) :
    W p l e room_1 s m args below meth c H locs cells slots Q (F0 m 1239 ls []) := by
  obtain ⟨⟨hx, hb, hml9, hown⟩, ⟨hG, hX, hGz, hAW, hN⟩, hXs, hbl⟩ := hC
  obtain ⟨ep, ns, nt, nr, M, N, V, co, su, ad, md, f1, f2, hR, hA, hM, hJ, hcw, hmw, hol, hod, rfl, rfl⟩ := hI
  have hbA : ¬ (fun q => s.heap.size ≤ q) b := Nat.not_le.mpr hbl
  have hL := hR.1.1
  have hL8 := hL.1
  have hLt := hL.2.1
  have hLr := hL.2.2
  have hMN := hR.2.1.2.2.1
  have hml : c.maxLocals = ls.size := hml9.trans hl.1.symm
  have hz : s.heap.size ≤ H.size := hS.1
  obtain ⟨hJ1, hJ2, hJ3, hJ4, hJ5⟩ := id hJ
  have hep : ep < 2 ^ 31 := by have := hR.1.2; omega
  have hmlt := MA.lt hmw
  have hclt := CA.lt hcw hL
  have ho1 : o1 < H.size := (hol 0 _ rfl).lt
  have ho2 : o2 < H.size := (hod 0 _ rfl).lt
  refine lv_aload_n hx hb dL_law_1239 rfl (lv_at hl 1 rfl) ?_
  refine k_arg (j := 1) (kv := 1) hx hb hXs hbl hbA hS (lv_at hl 0 rfl) (lv_at hl 5 rfl) (by omega) (by omega) (by decide) (by decide) dL_law_1240 dL_law_1241 dL_law_1243 dL_law_1244 dL_law_1245 rfl ?_
  refine lv_aload_n hx hb dL_law_1246 rfl (lv_at hl 3 rfl) ?_
  refine kc_ui (kx_SW (As := [.ref (ad 0), .int (xs (w + 1)), .ref o1]) (rest := []) hx hb hml hown hG (c_L_observe l hlf D cy ad ns nt nr hL M V hA (xs (w + 1)) (fun i hi => (hR.own hi).1) o1 f1 (fun h => (hJ1 o1 h).2.2.1 rfl)) cfL_observe wM_L_155 (PL.preS hG hX (hGz.at hS) hAW hN ⟨hcw, hol⟩) ⟨rfl, rfl, Nat.le_of_ble_eq_true rfl, Nat.le_of_ble_eq_true rfl⟩ rfl rfl (Nat.le_of_ble_eq_true rfl) ⟨show cells + 1 ≤ 601024 by omega, show slots + 6 ≤ 7293034 by omega⟩ dL_law_1247) hS (fun q h => h.elim (fun h => (hJ1 q h).1) (fun h => Nat.le_trans hJ3 (Nat.le_of_eq h.symm))) (fun kc H1 locs hp1 z1 oq1 hS => ?_)
  obtain ⟨ek, g9, hol, hcl⟩ := hp1
  have hmw := hmw.keep oq1 (fun q hq h => h.elim (fun h => (hJ1 q h).2.1 hq) (fun h => (hJ2 q hq).2.1 h))
  have hod : oD D cy o2 f2 H1 := kP_keepA hod oq1 (fun h => h.elim (fun h => (hJ1 o2 h).2.2.2 rfl) (fun h => hJ5 h.symm))
  refine lv_istore (lv' := [(6, .int kc), (0, .ref b), (1, .ref (ad 0)), (2, .ref (md 0)), (3, .ref o1), (4, .ref o2), (5, .int (nI w))]) hx hb dL_law_1250 hl (by decide) rfl (fun ls hl => ?_)
  have hml : c.maxLocals = ls.size := hml9.trans hl.1.symm
  refine lv_aload_n hx hb dL_law_1252 rfl (lv_at hl 3 rfl) ?_
  refine k_arg (j := 1) (kv := 1) hx hb hXs hbl hbA hS (lv_at hl 1 rfl) (lv_at hl 6 rfl) (by omega) (by omega) (by decide) (by decide) dL_law_1253 dL_law_1254 dL_law_1256 dL_law_1257 dL_law_1258 rfl ?_
  refine kc_ui (kr_V (As := [.int (xs (w + 1))]) (rest := []) hx hb hml hown hG (c_X7_observe l D cy md N co su hM ns nt nr hL hMN hR.ref (fun i hi => (hR.own hi).2) (xs (w + 1))) cf_X7_observe wM_L_157 hmw.o rfl hmw ⟨rfl, rfl, Nat.le_of_ble_eq_true rfl, Nat.le_of_ble_eq_true rfl⟩ rfl rfl (Nat.le_of_ble_eq_true rfl) ⟨show cells + 1 + 0 ≤ 601024 by omega, show slots + 6 + 0 ≤ 7293034 by omega⟩ dL_law_1259) hS (fun q h => (hJ2 q h).1) (fun r7 H2 locs hp2 z2 oq2 hS => ?_)
  have hol : oL D cy o1 g9 H2 := kP_keepA hol oq2 (fun h => (hJ2 o1 h).2.1 rfl)
  have hod : oD D cy o2 f2 H2 := kP_keepA hod oq2 (fun h => (hJ2 o2 h).2.2 rfl)
  refine lv_istore (lv' := [(7, .int r7), (6, .int kc), (0, .ref b), (1, .ref (ad 0)), (2, .ref (md 0)), (3, .ref o1), (4, .ref o2), (5, .int (nI w))]) hx hb dL_law_1262 hl (by decide) rfl (fun ls hl => ?_)
  rcases hcl with ⟨hk, hcw⟩ | ⟨r, hf0, hk, i, hi, ei, er, V2, hcw⟩
  · have hcw := hcw.keep oq2 (fun q hq h => (hJ1 q hq).2.1 h)
    rcases hp2 with ⟨k1, hmw⟩ | ⟨k1, hmw⟩ | ⟨k1, -⟩
    · exact k_tail (t := 1264) (l := l) hx hb hml9 hown hG dL_law_1264 dL_law_1265 dL_law_1268 dL_law_1270 dL_law_1275 dL_law_1277 dL_law_1280 dL_law_1281 dL_law_1282 dL_law_1283 dL_law_1285 dL_law_1286 dL_law_1287 dL_law_1292 (by decide) hl hmw (show thr N 1 0 0 = kc from k1.symm.trans ((eKobs (hR.no 0)).trans ek.symm)) hol (fun q => absurd (ek.symm.trans q) hk) (by omega) (by omega) ⟨hc, hs⟩ (fun ls1 hl1 => kk _ _ _ (LI.mk ((hR.no 1).next hn) hA hM hJ hcw hmw hol hod rfl) hS hl1)
    · exact k_tail (t := 1264) (l := l) hx hb hml9 hown hG dL_law_1264 dL_law_1265 dL_law_1268 dL_law_1270 dL_law_1275 dL_law_1277 dL_law_1280 dL_law_1281 dL_law_1282 dL_law_1283 dL_law_1285 dL_law_1286 dL_law_1287 dL_law_1292 (by decide) hl hmw (show thr N 2 0 0 = kc from k1.symm.trans ((eKobs (hR.no 0)).trans ek.symm)) hol (fun q => absurd (ek.symm.trans q) hk) (by omega) (by omega) ⟨hc, hs⟩ (fun ls1 hl1 => kk _ _ _ (LI.mk ((hR.no 2).next hn) hA hM hJ hcw hmw hol hod rfl) hS hl1)
    · exact absurd ((eKobs (hR.no 0)).symm.trans k1) hk
  · have hcw := hcw.keep oq2 (fun q hq h => (hJ1 q hq).2.1 h)
    rcases hp2 with ⟨k1, -⟩ | ⟨k1, -⟩ | ⟨k1, i2, hi2, ei2, er2, hmw⟩
    · exact absurd (k1.symm.trans ((eKobs (hR.no 0)).trans hk)) (show ¬ (1 : Int32) = 0 by decide)
    · exact absurd (k1.symm.trans ((eKobs (hR.no 0)).trans hk)) (show ¬ (2 : Int32) = 0 by decide)
    · obtain rfl : i2 = i := (nI_eq (by omega) (by omega)).mp (ei2.symm.trans ei)
      have hq := S_observe (hR.no 0) hn hi2 V co
      have hq0 := (eObsOwn (hR.no 0) hn hi2 V co).1.1 0 (by decide) (by decide)
      exact k_tail (t := 1264) (l := l) hx hb hml9 hown hG dL_law_1264 dL_law_1265 dL_law_1268 dL_law_1270 dL_law_1275 dL_law_1277 dL_law_1280 dL_law_1281 dL_law_1282 dL_law_1283 dL_law_1285 dL_law_1286 dL_law_1287 dL_law_1292 (by decide) hl hmw (hq0.trans (hk.symm.trans ek.symm)) hol (fun _ => by rw [hf0, er, er2, hq.1]) (by omega) (by omega) ⟨hc, hs⟩ (fun ls1 hl1 => kk _ _ _ (LI.mk hq.2 hA hM hJ hcw hmw hol hod rfl) hS hl1)
set_option maxHeartbeats 4000000 in
set_option maxRecDepth 100000 in
theorem law_ofStar (l : Launch) (hlf : l.stackTraces = false) {D : va_G} {cy : Nat → ClassId} {p : Program} {e : Env} {s : State} {m : MethodId} {args : Array Value} {below : List Frame} {meth : Method} {c : Code} {b L : Nat} {xs : Nat → Int32} (hC : LC D cy p s m meth c b L xs) (hL3 : L ≤ 3072) {Q : State → Prop} {n w x m0 o1 o2 : Nat} {H : Heap} {locs : List Loc} {cells slots : Nat} {ls : Array Slot} (hI : LI D cy s.heap.size x m0 o1 o2 n H) (hn : n < 512) (hw6 : w + 6 ≤ L) (hS : va_S (fun q => s.heap.size ≤ q) s.heap H locs) (hc : cells + 51 ≤ 601024) (hs : slots + 669 ≤ 7293034) (hl : lv_has ls 9 [(0, .ref b), (1, .ref x), (2, .ref m0), (3, .ref o1), (4, .ref o2), (5, .int (nI w))])
    (kk : ∀ (H1 : Heap) (locs1 : List Loc) (ls1 : Array Slot), LI D cy s.heap.size x m0 o1 o2 (n + 1) H1 → va_S (fun q => s.heap.size ≤ q) s.heap H1 locs1 → lv_has ls1 9 [(0, .ref b), (1, .ref x), (2, .ref m0), (3, .ref o1), (4, .ref o2), (5, .int (nI w))] → W p l e room_1 s m args below meth c H1 locs1 (cells + 51) (slots + 669) Q (F0 m 1986 ls1 [])) :
    W p l e room_1 s m args below meth c H locs cells slots Q (F0 m 1295 ls []) := by
  obtain ⟨⟨hx, hb, hml9, hown⟩, ⟨hG, hX, hGz, hAW, hN⟩, hXs, hbl⟩ := hC
  obtain ⟨ep, ns, nt, nr, M, N, V, co, su, ad, md, f1, f2, hR, hA, hM, hJ, hcw, hmw, hol, hod, rfl, rfl⟩ := hI
  have hbA : ¬ (fun q => s.heap.size ≤ q) b := Nat.not_le.mpr hbl
  have hL := hR.1.1
  have hL8 := hL.1
  have hLt := hL.2.1
  have hLr := hL.2.2
  have hMN := hR.2.1.2.2.1
  have hml : c.maxLocals = ls.size := hml9.trans hl.1.symm
  have hz : s.heap.size ≤ H.size := hS.1
  obtain ⟨hJ1, hJ2, hJ3, hJ4, hJ5⟩ := id hJ
  have hep : ep < 2 ^ 31 := by have := hR.1.2; omega
  have hmlt := MA.lt hmw
  have hclt := CA.lt hcw hL
  have ho1 : o1 < H.size := (hol 0 _ rfl).lt
  have ho2 : o2 < H.size := (hod 0 _ rfl).lt
  refine lv_aload_n hx hb dL_law_1295 rfl (lv_at hl 1 rfl) ?_
  refine k_arg (j := 1) (kv := 1) hx hb hXs hbl hbA hS (lv_at hl 0 rfl) (lv_at hl 5 rfl) (by omega) (by omega) (by decide) (by decide) dL_law_1296 dL_law_1297 dL_law_1299 dL_law_1300 dL_law_1301 rfl ?_
  refine k_arg (j := 2) (kv := 2) hx hb hXs hbl hbA hS (lv_at hl 0 rfl) (lv_at hl 5 rfl) (by omega) (by omega) (by decide) (by decide) dL_law_1302 dL_law_1303 dL_law_1305 dL_law_1306 dL_law_1307 rfl ?_
  refine lv_aload_n hx hb dL_law_1308 rfl (lv_at hl 3 rfl) ?_
  refine kc_ui (kx_SW (As := [.ref (ad 0), .int (xs (w + 1)), .int (xs (w + 2)), .ref o1]) (rest := []) hx hb hml hown hG (c_L_ofStar l hlf D cy ad ns nt nr hL M V hA (xs (w + 1)) (xs (w + 2)) o1 f1 (fun h => (hJ1 o1 h).2.2.1 rfl)) cfL_ofStar wM_L_158 (PL.preS hG hX (hGz.at hS) hAW hN ⟨hcw, hol⟩) ⟨rfl, rfl, Nat.le_of_ble_eq_true rfl, Nat.le_of_ble_eq_true rfl⟩ rfl rfl (Nat.le_of_ble_eq_true rfl) ⟨show cells + 1 ≤ 601024 by omega, show slots + 6 ≤ 7293034 by omega⟩ dL_law_1309) hS (fun q h => h.elim (fun h => (hJ1 q h).1) (fun h => Nat.le_trans hJ3 (Nat.le_of_eq h.symm))) (fun kc H1 locs hp1 z1 oq1 hS => ?_)
  obtain ⟨ek, g9, hol, hcl⟩ := hp1
  have hmw := hmw.keep oq1 (fun q hq h => h.elim (fun h => (hJ1 q h).2.1 hq) (fun h => (hJ2 q hq).2.1 h))
  have hod : oD D cy o2 f2 H1 := kP_keepA hod oq1 (fun h => h.elim (fun h => (hJ1 o2 h).2.2.2 rfl) (fun h => hJ5 h.symm))
  refine lv_istore (lv' := [(6, .int kc), (0, .ref b), (1, .ref (ad 0)), (2, .ref (md 0)), (3, .ref o1), (4, .ref o2), (5, .int (nI w))]) hx hb dL_law_1312 hl (by decide) rfl (fun ls hl => ?_)
  have hml : c.maxLocals = ls.size := hml9.trans hl.1.symm
  refine lv_aload_n hx hb dL_law_1314 rfl (lv_at hl 3 rfl) ?_
  refine k_arg (j := 1) (kv := 1) hx hb hXs hbl hbA hS (lv_at hl 1 rfl) (lv_at hl 6 rfl) (by omega) (by omega) (by decide) (by decide) dL_law_1315 dL_law_1316 dL_law_1318 dL_law_1319 dL_law_1320 rfl ?_
  refine k_arg (j := 2) (kv := 2) hx hb hXs hbl hbA hS (lv_at hl 1 rfl) (lv_at hl 6 rfl) (by omega) (by omega) (by decide) (by decide) dL_law_1321 dL_law_1322 dL_law_1324 dL_law_1325 dL_law_1326 rfl ?_
  refine kc_ui (kr_V (As := [.int (xs (w + 1)), .int (xs (w + 2))]) (rest := []) hx hb hml hown hG (c_X7_ofStar l D cy md N co su hM ns nt nr hL hMN (xs (w + 1)) (xs (w + 2))) cf_X7_ofStar wM_L_160 hmw.o rfl hmw ⟨rfl, rfl, Nat.le_of_ble_eq_true rfl, Nat.le_of_ble_eq_true rfl⟩ rfl rfl (Nat.le_of_ble_eq_true rfl) ⟨show cells + 1 + 0 ≤ 601024 by omega, show slots + 6 + 0 ≤ 7293034 by omega⟩ dL_law_1327) hS (fun q h => (hJ2 q h).1) (fun r7 H2 locs hp2 z2 oq2 hS => ?_)
  have hol : oL D cy o1 g9 H2 := kP_keepA hol oq2 (fun h => (hJ2 o1 h).2.1 rfl)
  have hod : oD D cy o2 f2 H2 := kP_keepA hod oq2 (fun h => (hJ2 o2 h).2.2 rfl)
  refine lv_istore (lv' := [(7, .int r7), (6, .int kc), (0, .ref b), (1, .ref (ad 0)), (2, .ref (md 0)), (3, .ref o1), (4, .ref o2), (5, .int (nI w))]) hx hb dL_law_1330 hl (by decide) rfl (fun ls hl => ?_)
  rcases hcl with ⟨hk, hcw⟩ | ⟨r, hf0, hk, i, hi, ei, er, hcw⟩
  · have hcw := hcw.keep oq2 (fun q hq h => (hJ1 q hq).2.1 h)
    rcases hp2 with ⟨k1, hmw⟩ | ⟨k1, hmw⟩ | ⟨k1, -⟩
    · exact k_tail (t := 1332) (l := l) hx hb hml9 hown hG dL_law_1332 dL_law_1333 dL_law_1336 dL_law_1338 dL_law_1343 dL_law_1345 dL_law_1348 dL_law_1349 dL_law_1350 dL_law_1351 dL_law_1353 dL_law_1354 dL_law_1355 dL_law_1360 (by decide) hl hmw (show thr N 1 0 0 = kc from k1.symm.trans ((rfl).trans ek.symm)) hol (fun q => absurd (ek.symm.trans q) hk) (by omega) (by omega) ⟨hc, hs⟩ (fun ls1 hl1 => kk _ _ _ (LI.mk ((hR.no 1).next hn) hA hM hJ hcw hmw hol hod rfl) hS hl1)
    · exact k_tail (t := 1332) (l := l) hx hb hml9 hown hG dL_law_1332 dL_law_1333 dL_law_1336 dL_law_1338 dL_law_1343 dL_law_1345 dL_law_1348 dL_law_1349 dL_law_1350 dL_law_1351 dL_law_1353 dL_law_1354 dL_law_1355 dL_law_1360 (by decide) hl hmw (show thr N 2 0 0 = kc from k1.symm.trans ((rfl).trans ek.symm)) hol (fun q => absurd (ek.symm.trans q) hk) (by omega) (by omega) ⟨hc, hs⟩ (fun ls1 hl1 => kk _ _ _ (LI.mk ((hR.no 2).next hn) hA hM hJ hcw hmw hol hod rfl) hS hl1)
    · exact absurd ((rfl).symm.trans k1) hk
  · have hcw := hcw.keep oq2 (fun q hq h => (hJ1 q hq).2.1 h)
    rcases hp2 with ⟨k1, -⟩ | ⟨k1, -⟩ | ⟨k1, i2, hi2, ei2, er2, hmw⟩
    · exact absurd (k1.symm.trans ((rfl).trans hk)) (show ¬ (1 : Int32) = 0 by decide)
    · exact absurd (k1.symm.trans ((rfl).trans hk)) (show ¬ (2 : Int32) = 0 by decide)
    · obtain rfl : i2 = i := (nI_eq (by omega) (by omega)).mp (ei2.symm.trans ei)
      have hq := eTell ((hR.no 0).2.2.1 i2 hi2).1 ((hR.no 0).2.2.1 i2 hi2).2.1 (kRng_0 hk)
      exact k_tail (t := 1332) (l := l) hx hb hml9 hown hG dL_law_1332 dL_law_1333 dL_law_1336 dL_law_1338 dL_law_1343 dL_law_1345 dL_law_1348 dL_law_1349 dL_law_1350 dL_law_1351 dL_law_1353 dL_law_1354 dL_law_1355 dL_law_1360 (by decide) hl hmw (hk.symm.trans ek.symm) hol (fun _ => by rw [hf0, er, er2, hq]) (by omega) (by omega) ⟨hc, hs⟩ (fun ls1 hl1 => kk _ _ _ (LI.mk ((hR.no 0).next hn) hA hM hJ hcw hmw hol hod rfl) hS hl1)
set_option maxHeartbeats 4000000 in
set_option maxRecDepth 100000 in
theorem law_message (l : Launch) (hlf : l.stackTraces = false) {D : va_G} {cy : Nat → ClassId} {p : Program} {e : Env} {s : State} {m : MethodId} {args : Array Value} {below : List Frame} {meth : Method} {c : Code} {b L : Nat} {xs : Nat → Int32} (hC : LC D cy p s m meth c b L xs) (hL3 : L ≤ 3072) {Q : State → Prop} {n w x m0 o1 o2 : Nat} {H : Heap} {locs : List Loc} {cells slots : Nat} {ls : Array Slot} (hI : LI D cy s.heap.size x m0 o1 o2 n H) (hn : n < 512) (hw6 : w + 6 ≤ L) (hS : va_S (fun q => s.heap.size ≤ q) s.heap H locs) (hc : cells + 51 ≤ 601024) (hs : slots + 669 ≤ 7293034) (hl : lv_has ls 9 [(0, .ref b), (1, .ref x), (2, .ref m0), (3, .ref o1), (4, .ref o2), (5, .int (nI w))])
    (kk : ∀ (H1 : Heap) (locs1 : List Loc) (ls1 : Array Slot), LI D cy s.heap.size x m0 o1 o2 (n + 1) H1 → va_S (fun q => s.heap.size ≤ q) s.heap H1 locs1 → lv_has ls1 9 [(0, .ref b), (1, .ref x), (2, .ref m0), (3, .ref o1), (4, .ref o2), (5, .int (nI w))] → W p l e room_1 s m args below meth c H1 locs1 (cells + 51) (slots + 669) Q (F0 m 1986 ls1 [])) :
    W p l e room_1 s m args below meth c H locs cells slots Q (F0 m 1363 ls []) := by
  obtain ⟨⟨hx, hb, hml9, hown⟩, ⟨hG, hX, hGz, hAW, hN⟩, hXs, hbl⟩ := hC
  obtain ⟨ep, ns, nt, nr, M, N, V, co, su, ad, md, f1, f2, hR, hA, hM, hJ, hcw, hmw, hol, hod, rfl, rfl⟩ := hI
  have hbA : ¬ (fun q => s.heap.size ≤ q) b := Nat.not_le.mpr hbl
  have hL := hR.1.1
  have hL8 := hL.1
  have hLt := hL.2.1
  have hLr := hL.2.2
  have hMN := hR.2.1.2.2.1
  have hml : c.maxLocals = ls.size := hml9.trans hl.1.symm
  have hz : s.heap.size ≤ H.size := hS.1
  obtain ⟨hJ1, hJ2, hJ3, hJ4, hJ5⟩ := id hJ
  have hep : ep < 2 ^ 31 := by have := hR.1.2; omega
  have hmlt := MA.lt hmw
  have hclt := CA.lt hcw hL
  have ho1 : o1 < H.size := (hol 0 _ rfl).lt
  have ho2 : o2 < H.size := (hod 0 _ rfl).lt
  refine lv_aload_n hx hb dL_law_1363 rfl (lv_at hl 1 rfl) ?_
  refine k_arg (j := 1) (kv := 1) hx hb hXs hbl hbA hS (lv_at hl 0 rfl) (lv_at hl 5 rfl) (by omega) (by omega) (by decide) (by decide) dL_law_1364 dL_law_1365 dL_law_1367 dL_law_1368 dL_law_1369 rfl ?_
  refine k_arg (j := 2) (kv := 2) hx hb hXs hbl hbA hS (lv_at hl 0 rfl) (lv_at hl 5 rfl) (by omega) (by omega) (by decide) (by decide) dL_law_1370 dL_law_1371 dL_law_1373 dL_law_1374 dL_law_1375 rfl ?_
  refine lv_aload_n hx hb dL_law_1376 rfl (lv_at hl 3 rfl) ?_
  refine kc_ui (kx_SW (As := [.ref (ad 0), .int (xs (w + 1)), .int (xs (w + 2)), .ref o1]) (rest := []) hx hb hml hown hG (c_L_message l hlf D cy ad ns nt nr hL M V hA (xs (w + 1)) (xs (w + 2)) o1 f1 (fun h => (hJ1 o1 h).2.2.1 rfl)) cfL_message wM_L_161 (PL.preS hG hX (hGz.at hS) hAW hN ⟨hcw, hol⟩) ⟨rfl, rfl, Nat.le_of_ble_eq_true rfl, Nat.le_of_ble_eq_true rfl⟩ rfl rfl (Nat.le_of_ble_eq_true rfl) ⟨show cells + 1 ≤ 601024 by omega, show slots + 6 ≤ 7293034 by omega⟩ dL_law_1377) hS (fun q h => h.elim (fun h => (hJ1 q h).1) (fun h => Nat.le_trans hJ3 (Nat.le_of_eq h.symm))) (fun kc H1 locs hp1 z1 oq1 hS => ?_)
  obtain ⟨ek, g9, hol, hcl⟩ := hp1
  have hmw := hmw.keep oq1 (fun q hq h => h.elim (fun h => (hJ1 q h).2.1 hq) (fun h => (hJ2 q hq).2.1 h))
  have hod : oD D cy o2 f2 H1 := kP_keepA hod oq1 (fun h => h.elim (fun h => (hJ1 o2 h).2.2.2 rfl) (fun h => hJ5 h.symm))
  refine lv_istore (lv' := [(6, .int kc), (0, .ref b), (1, .ref (ad 0)), (2, .ref (md 0)), (3, .ref o1), (4, .ref o2), (5, .int (nI w))]) hx hb dL_law_1380 hl (by decide) rfl (fun ls hl => ?_)
  have hml : c.maxLocals = ls.size := hml9.trans hl.1.symm
  refine lv_aload_n hx hb dL_law_1382 rfl (lv_at hl 3 rfl) ?_
  refine k_arg (j := 1) (kv := 1) hx hb hXs hbl hbA hS (lv_at hl 1 rfl) (lv_at hl 6 rfl) (by omega) (by omega) (by decide) (by decide) dL_law_1383 dL_law_1384 dL_law_1386 dL_law_1387 dL_law_1388 rfl ?_
  refine k_arg (j := 2) (kv := 2) hx hb hXs hbl hbA hS (lv_at hl 1 rfl) (lv_at hl 6 rfl) (by omega) (by omega) (by decide) (by decide) dL_law_1389 dL_law_1390 dL_law_1392 dL_law_1393 dL_law_1394 rfl ?_
  refine kc_ui (kr_V (As := [.int (xs (w + 1)), .int (xs (w + 2))]) (rest := []) hx hb hml hown hG (c_X7_message l D cy md N co su hM ns nt nr hL hMN (xs (w + 1)) (xs (w + 2))) cf_X7_message wM_L_163 hmw.o rfl hmw ⟨rfl, rfl, Nat.le_of_ble_eq_true rfl, Nat.le_of_ble_eq_true rfl⟩ rfl rfl (Nat.le_of_ble_eq_true rfl) ⟨show cells + 1 + 0 ≤ 601024 by omega, show slots + 6 + 0 ≤ 7293034 by omega⟩ dL_law_1395) hS (fun q h => (hJ2 q h).1) (fun r7 H2 locs hp2 z2 oq2 hS => ?_)
  have hol : oL D cy o1 g9 H2 := kP_keepA hol oq2 (fun h => (hJ2 o1 h).2.1 rfl)
  have hod : oD D cy o2 f2 H2 := kP_keepA hod oq2 (fun h => (hJ2 o2 h).2.2 rfl)
  refine lv_istore (lv' := [(7, .int r7), (6, .int kc), (0, .ref b), (1, .ref (ad 0)), (2, .ref (md 0)), (3, .ref o1), (4, .ref o2), (5, .int (nI w))]) hx hb dL_law_1398 hl (by decide) rfl (fun ls hl => ?_)
  rcases hcl with ⟨hk, hcw⟩ | ⟨r, hf0, hk, i, hi, ei, er, hcw⟩
  · have hcw := hcw.keep oq2 (fun q hq h => (hJ1 q hq).2.1 h)
    rcases hp2 with ⟨k1, hmw⟩ | ⟨k1, hmw⟩ | ⟨k1, -⟩
    · exact k_tail (t := 1400) (l := l) hx hb hml9 hown hG dL_law_1400 dL_law_1401 dL_law_1404 dL_law_1406 dL_law_1411 dL_law_1413 dL_law_1416 dL_law_1417 dL_law_1418 dL_law_1419 dL_law_1421 dL_law_1422 dL_law_1423 dL_law_1428 (by decide) hl hmw (show thr N 1 0 0 = kc from k1.symm.trans ((rfl).trans ek.symm)) hol (fun q => absurd (ek.symm.trans q) hk) (by omega) (by omega) ⟨hc, hs⟩ (fun ls1 hl1 => kk _ _ _ (LI.mk ((hR.no 1).next hn) hA hM hJ hcw hmw hol hod rfl) hS hl1)
    · exact k_tail (t := 1400) (l := l) hx hb hml9 hown hG dL_law_1400 dL_law_1401 dL_law_1404 dL_law_1406 dL_law_1411 dL_law_1413 dL_law_1416 dL_law_1417 dL_law_1418 dL_law_1419 dL_law_1421 dL_law_1422 dL_law_1423 dL_law_1428 (by decide) hl hmw (show thr N 2 0 0 = kc from k1.symm.trans ((rfl).trans ek.symm)) hol (fun q => absurd (ek.symm.trans q) hk) (by omega) (by omega) ⟨hc, hs⟩ (fun ls1 hl1 => kk _ _ _ (LI.mk ((hR.no 2).next hn) hA hM hJ hcw hmw hol hod rfl) hS hl1)
    · exact absurd ((rfl).symm.trans k1) hk
  · have hcw := hcw.keep oq2 (fun q hq h => (hJ1 q hq).2.1 h)
    rcases hp2 with ⟨k1, -⟩ | ⟨k1, -⟩ | ⟨k1, i2, hi2, ei2, er2, hmw⟩
    · exact absurd (k1.symm.trans ((rfl).trans hk)) (show ¬ (1 : Int32) = 0 by decide)
    · exact absurd (k1.symm.trans ((rfl).trans hk)) (show ¬ (2 : Int32) = 0 by decide)
    · obtain rfl : i2 = i := (nI_eq (by omega) (by omega)).mp (ei2.symm.trans ei)
      have hq := eTellM ((hR.no 0).2.2.1 i2 hi2).1 ((hR.no 0).2.2.1 i2 hi2).2 hep (kRng_0 hk)
      exact k_tail (t := 1400) (l := l) hx hb hml9 hown hG dL_law_1400 dL_law_1401 dL_law_1404 dL_law_1406 dL_law_1411 dL_law_1413 dL_law_1416 dL_law_1417 dL_law_1418 dL_law_1419 dL_law_1421 dL_law_1422 dL_law_1423 dL_law_1428 (by decide) hl hmw (hk.symm.trans ek.symm) hol (fun _ => by rw [hf0, er, er2, (hR.no 0).2.1.2.1, (hR.no 0).2.1.1, hq]) (by omega) (by omega) ⟨hc, hs⟩ (fun ls1 hl1 => kk _ _ _ (LI.mk ((hR.no 0).next hn) hA hM hJ hcw hmw hol hod rfl) hS hl1)
set_option maxHeartbeats 4000000 in
set_option maxRecDepth 100000 in
theorem law_seen (l : Launch) (hlf : l.stackTraces = false) {D : va_G} {cy : Nat → ClassId} {p : Program} {e : Env} {s : State} {m : MethodId} {args : Array Value} {below : List Frame} {meth : Method} {c : Code} {b L : Nat} {xs : Nat → Int32} (hC : LC D cy p s m meth c b L xs) (hL3 : L ≤ 3072) {Q : State → Prop} {n w x m0 o1 o2 : Nat} {H : Heap} {locs : List Loc} {cells slots : Nat} {ls : Array Slot} (hI : LI D cy s.heap.size x m0 o1 o2 n H) (hn : n < 512) (hw6 : w + 6 ≤ L) (hS : va_S (fun q => s.heap.size ≤ q) s.heap H locs) (hc : cells + 51 ≤ 601024) (hs : slots + 669 ≤ 7293034) (hl : lv_has ls 9 [(0, .ref b), (1, .ref x), (2, .ref m0), (3, .ref o1), (4, .ref o2), (5, .int (nI w))])
    (kk : ∀ (H1 : Heap) (locs1 : List Loc) (ls1 : Array Slot), LI D cy s.heap.size x m0 o1 o2 (n + 1) H1 → va_S (fun q => s.heap.size ≤ q) s.heap H1 locs1 → lv_has ls1 9 [(0, .ref b), (1, .ref x), (2, .ref m0), (3, .ref o1), (4, .ref o2), (5, .int (nI w))] → W p l e room_1 s m args below meth c H1 locs1 (cells + 51) (slots + 669) Q (F0 m 1986 ls1 [])) :
    W p l e room_1 s m args below meth c H locs cells slots Q (F0 m 1431 ls []) := by
  obtain ⟨⟨hx, hb, hml9, hown⟩, ⟨hG, hX, hGz, hAW, hN⟩, hXs, hbl⟩ := hC
  obtain ⟨ep, ns, nt, nr, M, N, V, co, su, ad, md, f1, f2, hR, hA, hM, hJ, hcw, hmw, hol, hod, rfl, rfl⟩ := hI
  have hbA : ¬ (fun q => s.heap.size ≤ q) b := Nat.not_le.mpr hbl
  have hL := hR.1.1
  have hL8 := hL.1
  have hLt := hL.2.1
  have hLr := hL.2.2
  have hMN := hR.2.1.2.2.1
  have hml : c.maxLocals = ls.size := hml9.trans hl.1.symm
  have hz : s.heap.size ≤ H.size := hS.1
  obtain ⟨hJ1, hJ2, hJ3, hJ4, hJ5⟩ := id hJ
  have hep : ep < 2 ^ 31 := by have := hR.1.2; omega
  have hmlt := MA.lt hmw
  have hclt := CA.lt hcw hL
  have ho1 : o1 < H.size := (hol 0 _ rfl).lt
  have ho2 : o2 < H.size := (hod 0 _ rfl).lt
  refine lv_aload_n hx hb dL_law_1431 rfl (lv_at hl 1 rfl) ?_
  refine k_arg (j := 1) (kv := 1) hx hb hXs hbl hbA hS (lv_at hl 0 rfl) (lv_at hl 5 rfl) (by omega) (by omega) (by decide) (by decide) dL_law_1432 dL_law_1433 dL_law_1435 dL_law_1436 dL_law_1437 rfl ?_
  refine k_arg (j := 2) (kv := 2) hx hb hXs hbl hbA hS (lv_at hl 0 rfl) (lv_at hl 5 rfl) (by omega) (by omega) (by decide) (by decide) dL_law_1438 dL_law_1439 dL_law_1441 dL_law_1442 dL_law_1443 rfl ?_
  refine k_arg (j := 3) (kv := 3) hx hb hXs hbl hbA hS (lv_at hl 0 rfl) (lv_at hl 5 rfl) (by omega) (by omega) (by decide) (by decide) dL_law_1444 dL_law_1445 dL_law_1447 dL_law_1448 dL_law_1449 rfl ?_
  refine lv_aload_n hx hb dL_law_1450 rfl (lv_at hl 3 rfl) ?_
  refine kc_ui (kx_SW (As := [.ref (ad 0), .int (xs (w + 1)), .int (xs (w + 2)), .int (xs (w + 3)), .ref o1]) (rest := []) hx hb hml hown hG (c_L_seen l hlf D cy ad ns nt nr hL M V hA (xs (w + 1)) (xs (w + 2)) (xs (w + 3)) o1 f1 (fun h => (hJ1 o1 h).2.2.1 rfl)) cfL_seen wM_L_164 (PL.preS hG hX (hGz.at hS) hAW hN ⟨hcw, hol⟩) ⟨rfl, rfl, Nat.le_of_ble_eq_true rfl, Nat.le_of_ble_eq_true rfl⟩ rfl rfl (Nat.le_of_ble_eq_true rfl) ⟨show cells + 1 ≤ 601024 by omega, show slots + 6 ≤ 7293034 by omega⟩ dL_law_1451) hS (fun q h => h.elim (fun h => (hJ1 q h).1) (fun h => Nat.le_trans hJ3 (Nat.le_of_eq h.symm))) (fun kc H1 locs hp1 z1 oq1 hS => ?_)
  obtain ⟨ek, g9, hol, hcl⟩ := hp1
  have hmw := hmw.keep oq1 (fun q hq h => h.elim (fun h => (hJ1 q h).2.1 hq) (fun h => (hJ2 q hq).2.1 h))
  have hod : oD D cy o2 f2 H1 := kP_keepA hod oq1 (fun h => h.elim (fun h => (hJ1 o2 h).2.2.2 rfl) (fun h => hJ5 h.symm))
  refine lv_istore (lv' := [(6, .int kc), (0, .ref b), (1, .ref (ad 0)), (2, .ref (md 0)), (3, .ref o1), (4, .ref o2), (5, .int (nI w))]) hx hb dL_law_1454 hl (by decide) rfl (fun ls hl => ?_)
  have hml : c.maxLocals = ls.size := hml9.trans hl.1.symm
  refine lv_aload_n hx hb dL_law_1456 rfl (lv_at hl 3 rfl) ?_
  refine k_arg (j := 1) (kv := 1) hx hb hXs hbl hbA hS (lv_at hl 1 rfl) (lv_at hl 6 rfl) (by omega) (by omega) (by decide) (by decide) dL_law_1457 dL_law_1458 dL_law_1460 dL_law_1461 dL_law_1462 rfl ?_
  refine k_arg (j := 2) (kv := 2) hx hb hXs hbl hbA hS (lv_at hl 1 rfl) (lv_at hl 6 rfl) (by omega) (by omega) (by decide) (by decide) dL_law_1463 dL_law_1464 dL_law_1466 dL_law_1467 dL_law_1468 rfl ?_
  refine k_arg (j := 3) (kv := 3) hx hb hXs hbl hbA hS (lv_at hl 1 rfl) (lv_at hl 6 rfl) (by omega) (by omega) (by decide) (by decide) dL_law_1469 dL_law_1470 dL_law_1472 dL_law_1473 dL_law_1474 rfl ?_
  refine kc_ui (kr_V (As := [.int (xs (w + 1)), .int (xs (w + 2)), .int (xs (w + 3))]) (rest := []) hx hb hml hown hG (c_X7_seen l D cy md N co su hM ns nt nr hL hMN (xs (w + 1)) (xs (w + 2)) (xs (w + 3))) cf_X7_seen wM_L_166 hmw.o rfl hmw ⟨rfl, rfl, Nat.le_of_ble_eq_true rfl, Nat.le_of_ble_eq_true rfl⟩ rfl rfl (Nat.le_of_ble_eq_true rfl) ⟨show cells + 1 + 0 ≤ 601024 by omega, show slots + 6 + 0 ≤ 7293034 by omega⟩ dL_law_1475) hS (fun q h => (hJ2 q h).1) (fun r7 H2 locs hp2 z2 oq2 hS => ?_)
  have hol : oL D cy o1 g9 H2 := kP_keepA hol oq2 (fun h => (hJ2 o1 h).2.1 rfl)
  have hod : oD D cy o2 f2 H2 := kP_keepA hod oq2 (fun h => (hJ2 o2 h).2.2 rfl)
  refine lv_istore (lv' := [(7, .int r7), (6, .int kc), (0, .ref b), (1, .ref (ad 0)), (2, .ref (md 0)), (3, .ref o1), (4, .ref o2), (5, .int (nI w))]) hx hb dL_law_1478 hl (by decide) rfl (fun ls hl => ?_)
  rcases hcl with ⟨hk, hcw⟩ | ⟨r, hf0, hk, i, j, hi, hj, ei, ej, er, hcw⟩
  · have hcw := hcw.keep oq2 (fun q hq h => (hJ1 q hq).2.1 h)
    rcases hp2 with ⟨k1, hmw⟩ | ⟨k1, hmw⟩ | ⟨k1, -⟩
    · exact k_tail (t := 1480) (l := l) hx hb hml9 hown hG dL_law_1480 dL_law_1481 dL_law_1484 dL_law_1486 dL_law_1491 dL_law_1493 dL_law_1496 dL_law_1497 dL_law_1498 dL_law_1499 dL_law_1501 dL_law_1502 dL_law_1503 dL_law_1508 (by decide) hl hmw (show thr N 1 0 0 = kc from k1.symm.trans ((rfl).trans ek.symm)) hol (fun q => absurd (ek.symm.trans q) hk) (by omega) (by omega) ⟨hc, hs⟩ (fun ls1 hl1 => kk _ _ _ (LI.mk ((hR.no 1).next hn) hA hM hJ hcw hmw hol hod rfl) hS hl1)
    · exact k_tail (t := 1480) (l := l) hx hb hml9 hown hG dL_law_1480 dL_law_1481 dL_law_1484 dL_law_1486 dL_law_1491 dL_law_1493 dL_law_1496 dL_law_1497 dL_law_1498 dL_law_1499 dL_law_1501 dL_law_1502 dL_law_1503 dL_law_1508 (by decide) hl hmw (show thr N 2 0 0 = kc from k1.symm.trans ((rfl).trans ek.symm)) hol (fun q => absurd (ek.symm.trans q) hk) (by omega) (by omega) ⟨hc, hs⟩ (fun ls1 hl1 => kk _ _ _ (LI.mk ((hR.no 2).next hn) hA hM hJ hcw hmw hol hod rfl) hS hl1)
    · exact absurd ((rfl).symm.trans k1) hk
  · have hcw := hcw.keep oq2 (fun q hq h => (hJ1 q hq).2.1 h)
    rcases hp2 with ⟨k1, -⟩ | ⟨k1, -⟩ | ⟨k1, i2, j2, hi2, hj2, ei2, ej2, er2, hmw⟩
    · exact absurd (k1.symm.trans ((rfl).trans hk)) (show ¬ (1 : Int32) = 0 by decide)
    · exact absurd (k1.symm.trans ((rfl).trans hk)) (show ¬ (2 : Int32) = 0 by decide)
    · obtain rfl : i2 = i := (nI_eq (by omega) (by omega)).mp (ei2.symm.trans ei)
      obtain rfl : j2 = j := (nI_eq (by omega) (by omega)).mp (ej2.symm.trans ej)
      have hq := eSeen (((hR.no 0).2.2.2.2.2.1 i2 hi2).2.2.2.1 j2 (by omega)) (kTwoR_0 hk)
      exact k_tail (t := 1480) (l := l) hx hb hml9 hown hG dL_law_1480 dL_law_1481 dL_law_1484 dL_law_1486 dL_law_1491 dL_law_1493 dL_law_1496 dL_law_1497 dL_law_1498 dL_law_1499 dL_law_1501 dL_law_1502 dL_law_1503 dL_law_1508 (by decide) hl hmw (hk.symm.trans ek.symm) hol (fun _ => by rw [hf0, er, er2, hq]) (by omega) (by omega) ⟨hc, hs⟩ (fun ls1 hl1 => kk _ _ _ (LI.mk ((hR.no 0).next hn) hA hM hJ hcw hmw hol hod rfl) hS hl1)
set_option maxHeartbeats 4000000 in
set_option maxRecDepth 100000 in
theorem law_ofReceiver (l : Launch) (hlf : l.stackTraces = false) {D : va_G} {cy : Nat → ClassId} {p : Program} {e : Env} {s : State} {m : MethodId} {args : Array Value} {below : List Frame} {meth : Method} {c : Code} {b L : Nat} {xs : Nat → Int32} (hC : LC D cy p s m meth c b L xs) (hL3 : L ≤ 3072) {Q : State → Prop} {n w x m0 o1 o2 : Nat} {H : Heap} {locs : List Loc} {cells slots : Nat} {ls : Array Slot} (hI : LI D cy s.heap.size x m0 o1 o2 n H) (hn : n < 512) (hw6 : w + 6 ≤ L) (hS : va_S (fun q => s.heap.size ≤ q) s.heap H locs) (hc : cells + 51 ≤ 601024) (hs : slots + 669 ≤ 7293034) (hl : lv_has ls 9 [(0, .ref b), (1, .ref x), (2, .ref m0), (3, .ref o1), (4, .ref o2), (5, .int (nI w))])
    (kk : ∀ (H1 : Heap) (locs1 : List Loc) (ls1 : Array Slot), LI D cy s.heap.size x m0 o1 o2 (n + 1) H1 → va_S (fun q => s.heap.size ≤ q) s.heap H1 locs1 → lv_has ls1 9 [(0, .ref b), (1, .ref x), (2, .ref m0), (3, .ref o1), (4, .ref o2), (5, .int (nI w))] → W p l e room_1 s m args below meth c H1 locs1 (cells + 51) (slots + 669) Q (F0 m 1986 ls1 [])) :
    W p l e room_1 s m args below meth c H locs cells slots Q (F0 m 1511 ls []) := by
  obtain ⟨⟨hx, hb, hml9, hown⟩, ⟨hG, hX, hGz, hAW, hN⟩, hXs, hbl⟩ := hC
  obtain ⟨ep, ns, nt, nr, M, N, V, co, su, ad, md, f1, f2, hR, hA, hM, hJ, hcw, hmw, hol, hod, rfl, rfl⟩ := hI
  have hbA : ¬ (fun q => s.heap.size ≤ q) b := Nat.not_le.mpr hbl
  have hL := hR.1.1
  have hL8 := hL.1
  have hLt := hL.2.1
  have hLr := hL.2.2
  have hMN := hR.2.1.2.2.1
  have hml : c.maxLocals = ls.size := hml9.trans hl.1.symm
  have hz : s.heap.size ≤ H.size := hS.1
  obtain ⟨hJ1, hJ2, hJ3, hJ4, hJ5⟩ := id hJ
  have hep : ep < 2 ^ 31 := by have := hR.1.2; omega
  have hmlt := MA.lt hmw
  have hclt := CA.lt hcw hL
  have ho1 : o1 < H.size := (hol 0 _ rfl).lt
  have ho2 : o2 < H.size := (hod 0 _ rfl).lt
  refine lv_aload_n hx hb dL_law_1511 rfl (lv_at hl 1 rfl) ?_
  refine k_arg (j := 1) (kv := 1) hx hb hXs hbl hbA hS (lv_at hl 0 rfl) (lv_at hl 5 rfl) (by omega) (by omega) (by decide) (by decide) dL_law_1512 dL_law_1513 dL_law_1515 dL_law_1516 dL_law_1517 rfl ?_
  refine k_arg (j := 2) (kv := 2) hx hb hXs hbl hbA hS (lv_at hl 0 rfl) (lv_at hl 5 rfl) (by omega) (by omega) (by decide) (by decide) dL_law_1518 dL_law_1519 dL_law_1521 dL_law_1522 dL_law_1523 rfl ?_
  refine lv_aload_n hx hb dL_law_1524 rfl (lv_at hl 3 rfl) ?_
  refine kc_ui (kx_SW (As := [.ref (ad 0), .int (xs (w + 1)), .int (xs (w + 2)), .ref o1]) (rest := []) hx hb hml hown hG (c_L_ofReceiver l hlf D cy ad ns nt nr hL M V hA (xs (w + 1)) (xs (w + 2)) o1 f1 (fun h => (hJ1 o1 h).2.2.1 rfl)) cfL_ofReceiver wM_L_167 (PL.preS hG hX (hGz.at hS) hAW hN ⟨hcw, hol⟩) ⟨rfl, rfl, Nat.le_of_ble_eq_true rfl, Nat.le_of_ble_eq_true rfl⟩ rfl rfl (Nat.le_of_ble_eq_true rfl) ⟨show cells + 1 ≤ 601024 by omega, show slots + 6 ≤ 7293034 by omega⟩ dL_law_1525) hS (fun q h => h.elim (fun h => (hJ1 q h).1) (fun h => Nat.le_trans hJ3 (Nat.le_of_eq h.symm))) (fun kc H1 locs hp1 z1 oq1 hS => ?_)
  obtain ⟨ek, g9, hol, hcl⟩ := hp1
  have hmw := hmw.keep oq1 (fun q hq h => h.elim (fun h => (hJ1 q h).2.1 hq) (fun h => (hJ2 q hq).2.1 h))
  have hod : oD D cy o2 f2 H1 := kP_keepA hod oq1 (fun h => h.elim (fun h => (hJ1 o2 h).2.2.2 rfl) (fun h => hJ5 h.symm))
  refine lv_istore (lv' := [(6, .int kc), (0, .ref b), (1, .ref (ad 0)), (2, .ref (md 0)), (3, .ref o1), (4, .ref o2), (5, .int (nI w))]) hx hb dL_law_1528 hl (by decide) rfl (fun ls hl => ?_)
  have hml : c.maxLocals = ls.size := hml9.trans hl.1.symm
  refine lv_aload_n hx hb dL_law_1530 rfl (lv_at hl 3 rfl) ?_
  refine k_arg (j := 1) (kv := 1) hx hb hXs hbl hbA hS (lv_at hl 1 rfl) (lv_at hl 6 rfl) (by omega) (by omega) (by decide) (by decide) dL_law_1531 dL_law_1532 dL_law_1534 dL_law_1535 dL_law_1536 rfl ?_
  refine k_arg (j := 2) (kv := 2) hx hb hXs hbl hbA hS (lv_at hl 1 rfl) (lv_at hl 6 rfl) (by omega) (by omega) (by decide) (by decide) dL_law_1537 dL_law_1538 dL_law_1540 dL_law_1541 dL_law_1542 rfl ?_
  refine kc_ui (kr_V (As := [.int (xs (w + 1)), .int (xs (w + 2))]) (rest := []) hx hb hml hown hG (c_X7_ofReceiver l D cy md N co su hM ns nt nr hL hMN (xs (w + 1)) (xs (w + 2)) H1.size) cf_X7_ofReceiver wM_L_169 hmw.o rfl ⟨hmw, rfl⟩ ⟨rfl, rfl, Nat.le_of_ble_eq_true rfl, Nat.le_of_ble_eq_true rfl⟩ rfl rfl (Nat.le_of_ble_eq_true rfl) ⟨show cells + 1 + 1 ≤ 601024 by omega, show slots + 6 + 14 ≤ 7293034 by omega⟩ dL_law_1543) hS (fun q h => h.elim (fun h => (hJ2 q h).1) (fun h => Nat.le_trans (Nat.le_trans hz z1) h)) (fun r7 H2 locs hp2 z2 oq2 hS => ?_)
  have hol : oL D cy o1 g9 H2 := kP_keepA hol oq2 (fun h => h.elim (fun h => (hJ2 o1 h).2.1 rfl) (fun h => absurd ho1 (Nat.not_lt.mpr (Nat.le_trans z1 h))))
  have hod : oD D cy o2 f2 H2 := kP_keepA hod oq2 (fun h => h.elim (fun h => (hJ2 o2 h).2.2 rfl) (fun h => absurd ho2 (Nat.not_lt.mpr (Nat.le_trans z1 h))))
  refine lv_istore (lv' := [(7, .int r7), (6, .int kc), (0, .ref b), (1, .ref (ad 0)), (2, .ref (md 0)), (3, .ref o1), (4, .ref o2), (5, .int (nI w))]) hx hb dL_law_1546 hl (by decide) rfl (fun ls hl => ?_)
  rcases hcl with ⟨hk, hcw⟩ | ⟨r, hf0, hk, i, hi, ei, er, hcw⟩
  · have hcw := hcw.keep oq2 (fun q hq h => h.elim (fun h => (hJ1 q hq).2.1 h) (fun h => absurd (hclt q hq) (Nat.not_lt.mpr (Nat.le_trans z1 h))))
    rcases hp2 with ⟨k1, hmw⟩ | ⟨k1, hmw⟩ | ⟨k1, -⟩
    · exact k_tail (t := 1548) (l := l) hx hb hml9 hown hG dL_law_1548 dL_law_1549 dL_law_1552 dL_law_1554 dL_law_1559 dL_law_1561 dL_law_1564 dL_law_1565 dL_law_1566 dL_law_1567 dL_law_1569 dL_law_1570 dL_law_1571 dL_law_1576 (by decide) hl hmw (show thr N 1 0 0 = kc from k1.symm.trans ((rfl).trans ek.symm)) hol (fun q => absurd (ek.symm.trans q) hk) (by omega) (by omega) ⟨hc, hs⟩ (fun ls1 hl1 => kk _ _ _ (LI.mk ((hR.no 1).next hn) hA hM hJ hcw hmw hol hod rfl) hS hl1)
    · exact k_tail (t := 1548) (l := l) hx hb hml9 hown hG dL_law_1548 dL_law_1549 dL_law_1552 dL_law_1554 dL_law_1559 dL_law_1561 dL_law_1564 dL_law_1565 dL_law_1566 dL_law_1567 dL_law_1569 dL_law_1570 dL_law_1571 dL_law_1576 (by decide) hl hmw (show thr N 2 0 0 = kc from k1.symm.trans ((rfl).trans ek.symm)) hol (fun q => absurd (ek.symm.trans q) hk) (by omega) (by omega) ⟨hc, hs⟩ (fun ls1 hl1 => kk _ _ _ (LI.mk ((hR.no 2).next hn) hA hM hJ hcw hmw hol hod rfl) hS hl1)
    · exact absurd ((rfl).symm.trans k1) hk
  · have hcw := hcw.keep oq2 (fun q hq h => h.elim (fun h => (hJ1 q hq).2.1 h) (fun h => absurd (hclt q hq) (Nat.not_lt.mpr (Nat.le_trans z1 h))))
    rcases hp2 with ⟨k1, -⟩ | ⟨k1, -⟩ | ⟨k1, i2, hi2, ei2, er2, hmw⟩
    · exact absurd (k1.symm.trans ((rfl).trans hk)) (show ¬ (1 : Int32) = 0 by decide)
    · exact absurd (k1.symm.trans ((rfl).trans hk)) (show ¬ (2 : Int32) = 0 by decide)
    · obtain rfl : i2 = i := (nI_eq (by omega) (by omega)).mp (ei2.symm.trans ei)
      have hq := eTold (hR.no 0) hi2 (kRng_0 hk)
      exact k_tail (t := 1548) (l := l) hx hb hml9 hown hG dL_law_1548 dL_law_1549 dL_law_1552 dL_law_1554 dL_law_1559 dL_law_1561 dL_law_1564 dL_law_1565 dL_law_1566 dL_law_1567 dL_law_1569 dL_law_1570 dL_law_1571 dL_law_1576 (by decide) hl hmw (hk.symm.trans ek.symm) hol (fun _ => by rw [hf0, er, er2, hq]) (by omega) (by omega) ⟨hc, hs⟩ (fun ls1 hl1 => kk _ _ _ (LI.mk ((hR.no 0).next hn) hA hM hJ hcw hmw hol hod rfl) hS hl1)
set_option maxHeartbeats 4000000 in
set_option maxRecDepth 100000 in
theorem law_many (l : Launch) (hlf : l.stackTraces = false) {D : va_G} {cy : Nat → ClassId} {p : Program} {e : Env} {s : State} {m : MethodId} {args : Array Value} {below : List Frame} {meth : Method} {c : Code} {b L : Nat} {xs : Nat → Int32} (hC : LC D cy p s m meth c b L xs) (hL3 : L ≤ 3072) {Q : State → Prop} {n w x m0 o1 o2 : Nat} {H : Heap} {locs : List Loc} {cells slots : Nat} {ls : Array Slot} (hI : LI D cy s.heap.size x m0 o1 o2 n H) (hn : n < 512) (hw6 : w + 6 ≤ L) (hS : va_S (fun q => s.heap.size ≤ q) s.heap H locs) (hc : cells + 51 ≤ 601024) (hs : slots + 669 ≤ 7293034) (hl : lv_has ls 9 [(0, .ref b), (1, .ref x), (2, .ref m0), (3, .ref o1), (4, .ref o2), (5, .int (nI w))])
    (kk : ∀ (H1 : Heap) (locs1 : List Loc) (ls1 : Array Slot), LI D cy s.heap.size x m0 o1 o2 (n + 1) H1 → va_S (fun q => s.heap.size ≤ q) s.heap H1 locs1 → lv_has ls1 9 [(0, .ref b), (1, .ref x), (2, .ref m0), (3, .ref o1), (4, .ref o2), (5, .int (nI w))] → W p l e room_1 s m args below meth c H1 locs1 (cells + 51) (slots + 669) Q (F0 m 1986 ls1 [])) :
    W p l e room_1 s m args below meth c H locs cells slots Q (F0 m 1579 ls []) := by
  obtain ⟨⟨hx, hb, hml9, hown⟩, ⟨hG, hX, hGz, hAW, hN⟩, hXs, hbl⟩ := hC
  obtain ⟨ep, ns, nt, nr, M, N, V, co, su, ad, md, f1, f2, hR, hA, hM, hJ, hcw, hmw, hol, hod, rfl, rfl⟩ := hI
  have hbA : ¬ (fun q => s.heap.size ≤ q) b := Nat.not_le.mpr hbl
  have hL := hR.1.1
  have hL8 := hL.1
  have hLt := hL.2.1
  have hLr := hL.2.2
  have hMN := hR.2.1.2.2.1
  have hml : c.maxLocals = ls.size := hml9.trans hl.1.symm
  have hz : s.heap.size ≤ H.size := hS.1
  obtain ⟨hJ1, hJ2, hJ3, hJ4, hJ5⟩ := id hJ
  have hep : ep < 2 ^ 31 := by have := hR.1.2; omega
  have hmlt := MA.lt hmw
  have hclt := CA.lt hcw hL
  have ho1 : o1 < H.size := (hol 0 _ rfl).lt
  have ho2 : o2 < H.size := (hod 0 _ rfl).lt
  refine lv_aload_n hx hb dL_law_1579 rfl (lv_at hl 1 rfl) ?_
  refine k_arg (j := 1) (kv := 1) hx hb hXs hbl hbA hS (lv_at hl 0 rfl) (lv_at hl 5 rfl) (by omega) (by omega) (by decide) (by decide) dL_law_1580 dL_law_1581 dL_law_1583 dL_law_1584 dL_law_1585 rfl ?_
  refine lv_aload_n hx hb dL_law_1586 rfl (lv_at hl 3 rfl) ?_
  refine kc_ui (kx_SW (As := [.ref (ad 0), .int (xs (w + 1)), .ref o1]) (rest := []) hx hb hml hown hG (c_L_many l hlf D cy ad ns nt nr hL M V hA (xs (w + 1)) o1 f1 (fun h => (hJ1 o1 h).2.2.1 rfl)) cfL_many wM_L_170 (PL.preS hG hX (hGz.at hS) hAW hN ⟨hcw, hol⟩) ⟨rfl, rfl, Nat.le_of_ble_eq_true rfl, Nat.le_of_ble_eq_true rfl⟩ rfl rfl (Nat.le_of_ble_eq_true rfl) ⟨show cells + 1 ≤ 601024 by omega, show slots + 6 ≤ 7293034 by omega⟩ dL_law_1587) hS (fun q h => h.elim (fun h => (hJ1 q h).1) (fun h => Nat.le_trans hJ3 (Nat.le_of_eq h.symm))) (fun kc H1 locs hp1 z1 oq1 hS => ?_)
  obtain ⟨ek, g9, hol, hcl⟩ := hp1
  have hmw := hmw.keep oq1 (fun q hq h => h.elim (fun h => (hJ1 q h).2.1 hq) (fun h => (hJ2 q hq).2.1 h))
  have hod : oD D cy o2 f2 H1 := kP_keepA hod oq1 (fun h => h.elim (fun h => (hJ1 o2 h).2.2.2 rfl) (fun h => hJ5 h.symm))
  refine lv_istore (lv' := [(6, .int kc), (0, .ref b), (1, .ref (ad 0)), (2, .ref (md 0)), (3, .ref o1), (4, .ref o2), (5, .int (nI w))]) hx hb dL_law_1590 hl (by decide) rfl (fun ls hl => ?_)
  have hml : c.maxLocals = ls.size := hml9.trans hl.1.symm
  refine lv_aload_n hx hb dL_law_1592 rfl (lv_at hl 3 rfl) ?_
  refine k_arg (j := 1) (kv := 1) hx hb hXs hbl hbA hS (lv_at hl 1 rfl) (lv_at hl 6 rfl) (by omega) (by omega) (by decide) (by decide) dL_law_1593 dL_law_1594 dL_law_1596 dL_law_1597 dL_law_1598 rfl ?_
  refine kc_ui (kr_V (As := [.int (xs (w + 1))]) (rest := []) hx hb hml hown hG (c_X7_many l D cy md N co su hM ns nt nr hL hMN (xs (w + 1)) H1.size) cf_X7_many wM_L_172 hmw.o rfl ⟨hmw, rfl⟩ ⟨rfl, rfl, Nat.le_of_ble_eq_true rfl, Nat.le_of_ble_eq_true rfl⟩ rfl rfl (Nat.le_of_ble_eq_true rfl) ⟨show cells + 1 + 1 ≤ 601024 by omega, show slots + 6 + 9 ≤ 7293034 by omega⟩ dL_law_1599) hS (fun q h => h.elim (fun h => (hJ2 q h).1) (fun h => Nat.le_trans (Nat.le_trans hz z1) h)) (fun r7 H2 locs hp2 z2 oq2 hS => ?_)
  have hol : oL D cy o1 g9 H2 := kP_keepA hol oq2 (fun h => h.elim (fun h => (hJ2 o1 h).2.1 rfl) (fun h => absurd ho1 (Nat.not_lt.mpr (Nat.le_trans z1 h))))
  have hod : oD D cy o2 f2 H2 := kP_keepA hod oq2 (fun h => h.elim (fun h => (hJ2 o2 h).2.2 rfl) (fun h => absurd ho2 (Nat.not_lt.mpr (Nat.le_trans z1 h))))
  refine lv_istore (lv' := [(7, .int r7), (6, .int kc), (0, .ref b), (1, .ref (ad 0)), (2, .ref (md 0)), (3, .ref o1), (4, .ref o2), (5, .int (nI w))]) hx hb dL_law_1602 hl (by decide) rfl (fun ls hl => ?_)
  rcases hcl with ⟨hk, hcw⟩ | ⟨r, hf0, hk, er, hcw⟩
  · have hcw := hcw.keep oq2 (fun q hq h => h.elim (fun h => (hJ1 q hq).2.1 h) (fun h => absurd (hclt q hq) (Nat.not_lt.mpr (Nat.le_trans z1 h))))
    rcases hp2 with ⟨k1, hmw⟩ | ⟨k1, hmw⟩ | ⟨k1, -⟩
    · exact k_tail (t := 1604) (l := l) hx hb hml9 hown hG dL_law_1604 dL_law_1605 dL_law_1608 dL_law_1610 dL_law_1615 dL_law_1617 dL_law_1620 dL_law_1621 dL_law_1622 dL_law_1623 dL_law_1625 dL_law_1626 dL_law_1627 dL_law_1632 (by decide) hl hmw (show thr N 1 0 0 = kc from k1.symm.trans ((rfl).trans ek.symm)) hol (fun q => absurd (ek.symm.trans q) hk) (by omega) (by omega) ⟨hc, hs⟩ (fun ls1 hl1 => kk _ _ _ (LI.mk ((hR.no 1).next hn) hA hM hJ hcw hmw hol hod rfl) hS hl1)
    · exact k_tail (t := 1604) (l := l) hx hb hml9 hown hG dL_law_1604 dL_law_1605 dL_law_1608 dL_law_1610 dL_law_1615 dL_law_1617 dL_law_1620 dL_law_1621 dL_law_1622 dL_law_1623 dL_law_1625 dL_law_1626 dL_law_1627 dL_law_1632 (by decide) hl hmw (show thr N 2 0 0 = kc from k1.symm.trans ((rfl).trans ek.symm)) hol (fun q => absurd (ek.symm.trans q) hk) (by omega) (by omega) ⟨hc, hs⟩ (fun ls1 hl1 => kk _ _ _ (LI.mk ((hR.no 2).next hn) hA hM hJ hcw hmw hol hod rfl) hS hl1)
    · exact absurd ((rfl).symm.trans k1) hk
  · have hcw := hcw.keep oq2 (fun q hq h => h.elim (fun h => (hJ1 q hq).2.1 h) (fun h => absurd (hclt q hq) (Nat.not_lt.mpr (Nat.le_trans z1 h))))
    rcases hp2 with ⟨k1, -⟩ | ⟨k1, -⟩ | ⟨k1, er2, hmw⟩
    · exact absurd (k1.symm.trans ((rfl).trans hk)) (show ¬ (1 : Int32) = 0 by decide)
    · exact absurd (k1.symm.trans ((rfl).trans hk)) (show ¬ (2 : Int32) = 0 by decide)
    · have hq := eMany (hR.no 0) (kIn_0 hk)
      exact k_tail (t := 1604) (l := l) hx hb hml9 hown hG dL_law_1604 dL_law_1605 dL_law_1608 dL_law_1610 dL_law_1615 dL_law_1617 dL_law_1620 dL_law_1621 dL_law_1622 dL_law_1623 dL_law_1625 dL_law_1626 dL_law_1627 dL_law_1632 (by decide) hl hmw (hk.symm.trans ek.symm) hol (fun _ => by rw [hf0, er, er2, hq]) (by omega) (by omega) ⟨hc, hs⟩ (fun ls1 hl1 => kk _ _ _ (LI.mk ((hR.no 0).next hn) hA hM hJ hcw hmw hol hod rfl) hS hl1)
set_option maxHeartbeats 4000000 in
set_option maxRecDepth 100000 in
theorem law_meanError (l : Launch) (hlf : l.stackTraces = false) {D : va_G} {cy : Nat → ClassId} {p : Program} {e : Env} {s : State} {m : MethodId} {args : Array Value} {below : List Frame} {meth : Method} {c : Code} {b L : Nat} {xs : Nat → Int32} (hC : LC D cy p s m meth c b L xs) (hL3 : L ≤ 3072) {Q : State → Prop} {n w x m0 o1 o2 : Nat} {H : Heap} {locs : List Loc} {cells slots : Nat} {ls : Array Slot} (hI : LI D cy s.heap.size x m0 o1 o2 n H) (hn : n < 512) (hw6 : w + 6 ≤ L) (hS : va_S (fun q => s.heap.size ≤ q) s.heap H locs) (hc : cells + 51 ≤ 601024) (hs : slots + 669 ≤ 7293034) (hl : lv_has ls 9 [(0, .ref b), (1, .ref x), (2, .ref m0), (3, .ref o1), (4, .ref o2), (5, .int (nI w))])
    (kk : ∀ (H1 : Heap) (locs1 : List Loc) (ls1 : Array Slot), LI D cy s.heap.size x m0 o1 o2 (n + 1) H1 → va_S (fun q => s.heap.size ≤ q) s.heap H1 locs1 → lv_has ls1 9 [(0, .ref b), (1, .ref x), (2, .ref m0), (3, .ref o1), (4, .ref o2), (5, .int (nI w))] → W p l e room_1 s m args below meth c H1 locs1 (cells + 51) (slots + 669) Q (F0 m 1986 ls1 [])) :
    W p l e room_1 s m args below meth c H locs cells slots Q (F0 m 1635 ls []) := by
  obtain ⟨⟨hx, hb, hml9, hown⟩, ⟨hG, hX, hGz, hAW, hN⟩, hXs, hbl⟩ := hC
  obtain ⟨ep, ns, nt, nr, M, N, V, co, su, ad, md, f1, f2, hR, hA, hM, hJ, hcw, hmw, hol, hod, rfl, rfl⟩ := hI
  have hbA : ¬ (fun q => s.heap.size ≤ q) b := Nat.not_le.mpr hbl
  have hL := hR.1.1
  have hL8 := hL.1
  have hLt := hL.2.1
  have hLr := hL.2.2
  have hMN := hR.2.1.2.2.1
  have hml : c.maxLocals = ls.size := hml9.trans hl.1.symm
  have hz : s.heap.size ≤ H.size := hS.1
  obtain ⟨hJ1, hJ2, hJ3, hJ4, hJ5⟩ := id hJ
  have hep : ep < 2 ^ 31 := by have := hR.1.2; omega
  have hmlt := MA.lt hmw
  have hclt := CA.lt hcw hL
  have ho1 : o1 < H.size := (hol 0 _ rfl).lt
  have ho2 : o2 < H.size := (hod 0 _ rfl).lt
  refine lv_aload_n hx hb dL_law_1635 rfl (lv_at hl 1 rfl) ?_
  refine k_arg (j := 1) (kv := 1) hx hb hXs hbl hbA hS (lv_at hl 0 rfl) (lv_at hl 5 rfl) (by omega) (by omega) (by decide) (by decide) dL_law_1636 dL_law_1637 dL_law_1639 dL_law_1640 dL_law_1641 rfl ?_
  refine lv_aload hx hb dL_law_1642 (lv_at hl 4 rfl) ?_
  refine kc_ui (kx_SW (As := [.ref (ad 0), .int (xs (w + 1)), .ref o2]) (rest := []) hx hb hml hown hG (c_L_meanError l hlf D cy ad ns nt nr hL M V hA (xs (w + 1)) o2 f2 (fun h => (hJ1 o2 h).2.2.2 rfl)) cfL_meanError wM_L_173 (PL.preS hG hX (hGz.at hS) hAW hN ⟨hcw, hod⟩) ⟨rfl, rfl, Nat.le_of_ble_eq_true rfl, Nat.le_of_ble_eq_true rfl⟩ rfl rfl (Nat.le_of_ble_eq_true rfl) ⟨show cells + 1 ≤ 601024 by omega, show slots + 6 ≤ 7293034 by omega⟩ dL_law_1644) hS (fun q h => h.elim (fun h => (hJ1 q h).1) (fun h => Nat.le_trans hJ4 (Nat.le_of_eq h.symm))) (fun kc H1 locs hp1 z1 oq1 hS => ?_)
  obtain ⟨ek, g9, hod, hcl⟩ := hp1
  have hmw := hmw.keep oq1 (fun q hq h => h.elim (fun h => (hJ1 q h).2.1 hq) (fun h => (hJ2 q hq).2.2 h))
  have hol : oL D cy o1 f1 H1 := kP_keepA hol oq1 (fun h => h.elim (fun h => (hJ1 o1 h).2.2.1 rfl) (fun h => hJ5 h))
  refine lv_istore (lv' := [(6, .int kc), (0, .ref b), (1, .ref (ad 0)), (2, .ref (md 0)), (3, .ref o1), (4, .ref o2), (5, .int (nI w))]) hx hb dL_law_1647 hl (by decide) rfl (fun ls hl => ?_)
  have hml : c.maxLocals = ls.size := hml9.trans hl.1.symm
  refine lv_aload_n hx hb dL_law_1649 rfl (lv_at hl 3 rfl) ?_
  refine k_arg (j := 1) (kv := 1) hx hb hXs hbl hbA hS (lv_at hl 1 rfl) (lv_at hl 6 rfl) (by omega) (by omega) (by decide) (by decide) dL_law_1650 dL_law_1651 dL_law_1653 dL_law_1654 dL_law_1655 rfl ?_
  refine kc_ud (kr_V (As := [.int (xs (w + 1))]) (rest := []) hx hb hml hown hG (c_X7_meanError l D cy md N co su hM ns nt nr hL hMN (xs (w + 1))) cf_X7_meanError wM_L_176 hmw.o rfl hmw ⟨rfl, rfl, Nat.le_of_ble_eq_true rfl, Nat.le_of_ble_eq_true rfl⟩ rfl rfl (Nat.le_of_ble_eq_true rfl) ⟨show cells + 1 + 0 ≤ 601024 by omega, show slots + 6 + 0 ≤ 7293034 by omega⟩ dL_law_1656) hS (fun q h => (hJ2 q h).1) (fun r7 H2 locs hp2 z2 oq2 hS => ?_)
  have hol : oL D cy o1 f1 H2 := kP_keepA hol oq2 (fun h => (hJ2 o1 h).2.1 rfl)
  have hod : oD D cy o2 g9 H2 := kP_keepA hod oq2 (fun h => (hJ2 o2 h).2.2 rfl)
  refine lv_dstore (lv' := [(7, .double r7), (6, .int kc), (0, .ref b), (1, .ref (ad 0)), (2, .ref (md 0)), (3, .ref o1), (4, .ref o2), (5, .int (nI w))]) hx hb dL_law_1659 hl (by decide) rfl (fun ls hl => ?_)
  rcases hcl with ⟨hk, hcw⟩ | ⟨r, hf0, hk, i, hi, ei, er, hcw⟩
  · have hcw := hcw.keep oq2 (fun q hq h => (hJ1 q hq).2.1 h)
    rcases hp2 with ⟨k1, hmw⟩ | ⟨k1, -⟩
    · exact k_tailD (t := 1661) (l := l) hx hb hml9 hown hG dL_law_1661 dL_law_1662 dL_law_1665 dL_law_1667 dL_law_1672 dL_law_1674 dL_law_1677 dL_law_1679 dL_law_1680 dL_law_1681 dL_law_1683 dL_law_1684 dL_law_1687 dL_law_1689 dL_law_1690 dL_law_1691 dL_law_1693 dL_law_1694 dL_law_1695 dL_law_1696 dL_law_1699 dL_law_1701 dL_law_1703 dL_law_1704 dL_law_1709 (by decide) hl hmw (show thr N 1 0 0 = kc from k1.symm.trans ((rfl).trans ek.symm)) hod (fun q => absurd (ek.symm.trans q) hk) (by omega) (by omega) ⟨hc, hs⟩ (fun ls1 hl1 => kk _ _ _ (LI.mk ((hR.no 1).next hn) hA hM hJ hcw hmw hol hod rfl) hS hl1)
    · exact absurd ((rfl).symm.trans k1) hk
  · have hcw := hcw.keep oq2 (fun q hq h => (hJ1 q hq).2.1 h)
    rcases hp2 with ⟨k1, -⟩ | ⟨k1, i2, hi2, ei2, er2, hmw⟩
    · exact absurd (k1.symm.trans ((rfl).trans hk)) (show ¬ (1 : Int32) = 0 by decide)
    · obtain rfl : i2 = i := (nI_eq (by omega) (by omega)).mp (ei2.symm.trans ei)
      have hq := eMean (hR.no 0) hi2
      exact k_tailD (t := 1661) (l := l) hx hb hml9 hown hG dL_law_1661 dL_law_1662 dL_law_1665 dL_law_1667 dL_law_1672 dL_law_1674 dL_law_1677 dL_law_1679 dL_law_1680 dL_law_1681 dL_law_1683 dL_law_1684 dL_law_1687 dL_law_1689 dL_law_1690 dL_law_1691 dL_law_1693 dL_law_1694 dL_law_1695 dL_law_1696 dL_law_1699 dL_law_1701 dL_law_1703 dL_law_1704 dL_law_1709 (by decide) hl hmw (hk.symm.trans ek.symm) hod (fun _ => by rw [hf0, er, er2, hq]) (by omega) (by omega) ⟨hc, hs⟩ (fun ls1 hl1 => kk _ _ _ (LI.mk ((hR.no 0).next hn) hA hM hJ hcw hmw hol hod rfl) hS hl1)
set_option maxHeartbeats 4000000 in
set_option maxRecDepth 100000 in
theorem law_wouldSee (l : Launch) (hlf : l.stackTraces = false) {D : va_G} {cy : Nat → ClassId} {p : Program} {e : Env} {s : State} {m : MethodId} {args : Array Value} {below : List Frame} {meth : Method} {c : Code} {b L : Nat} {xs : Nat → Int32} (hC : LC D cy p s m meth c b L xs) (hL3 : L ≤ 3072) {Q : State → Prop} {n w x m0 o1 o2 : Nat} {H : Heap} {locs : List Loc} {cells slots : Nat} {ls : Array Slot} (hI : LI D cy s.heap.size x m0 o1 o2 n H) (hn : n < 512) (hw6 : w + 6 ≤ L) (hS : va_S (fun q => s.heap.size ≤ q) s.heap H locs) (hc : cells + 51 ≤ 601024) (hs : slots + 669 ≤ 7293034) (hl : lv_has ls 9 [(0, .ref b), (1, .ref x), (2, .ref m0), (3, .ref o1), (4, .ref o2), (5, .int (nI w))])
    (kk : ∀ (H1 : Heap) (locs1 : List Loc) (ls1 : Array Slot), LI D cy s.heap.size x m0 o1 o2 (n + 1) H1 → va_S (fun q => s.heap.size ≤ q) s.heap H1 locs1 → lv_has ls1 9 [(0, .ref b), (1, .ref x), (2, .ref m0), (3, .ref o1), (4, .ref o2), (5, .int (nI w))] → W p l e room_1 s m args below meth c H1 locs1 (cells + 51) (slots + 669) Q (F0 m 1986 ls1 [])) :
    W p l e room_1 s m args below meth c H locs cells slots Q (F0 m 1712 ls []) := by
  obtain ⟨⟨hx, hb, hml9, hown⟩, ⟨hG, hX, hGz, hAW, hN⟩, hXs, hbl⟩ := hC
  obtain ⟨ep, ns, nt, nr, M, N, V, co, su, ad, md, f1, f2, hR, hA, hM, hJ, hcw, hmw, hol, hod, rfl, rfl⟩ := hI
  have hbA : ¬ (fun q => s.heap.size ≤ q) b := Nat.not_le.mpr hbl
  have hL := hR.1.1
  have hL8 := hL.1
  have hLt := hL.2.1
  have hLr := hL.2.2
  have hMN := hR.2.1.2.2.1
  have hml : c.maxLocals = ls.size := hml9.trans hl.1.symm
  have hz : s.heap.size ≤ H.size := hS.1
  obtain ⟨hJ1, hJ2, hJ3, hJ4, hJ5⟩ := id hJ
  have hep : ep < 2 ^ 31 := by have := hR.1.2; omega
  have hmlt := MA.lt hmw
  have hclt := CA.lt hcw hL
  have ho1 : o1 < H.size := (hol 0 _ rfl).lt
  have ho2 : o2 < H.size := (hod 0 _ rfl).lt
  refine lv_aload_n hx hb dL_law_1712 rfl (lv_at hl 1 rfl) ?_
  refine k_arg (j := 1) (kv := 1) hx hb hXs hbl hbA hS (lv_at hl 0 rfl) (lv_at hl 5 rfl) (by omega) (by omega) (by decide) (by decide) dL_law_1713 dL_law_1714 dL_law_1716 dL_law_1717 dL_law_1718 rfl ?_
  refine k_arg (j := 2) (kv := 2) hx hb hXs hbl hbA hS (lv_at hl 0 rfl) (lv_at hl 5 rfl) (by omega) (by omega) (by decide) (by decide) dL_law_1719 dL_law_1720 dL_law_1722 dL_law_1723 dL_law_1724 rfl ?_
  refine lv_aload_n hx hb dL_law_1725 rfl (lv_at hl 3 rfl) ?_
  refine kc_ui (kx_SW (As := [.ref (ad 0), .int (xs (w + 1)), .int (xs (w + 2)), .ref o1]) (rest := []) hx hb hml hown hG (c_L_wouldSee l hlf D cy ad ns nt nr hL M V hA (xs (w + 1)) (xs (w + 2)) o1 f1 (fun h => (hJ1 o1 h).2.2.1 rfl)) cfL_wouldSee wM_L_177 (PL.preS hG hX (hGz.at hS) hAW hN ⟨hcw, hol⟩) ⟨rfl, rfl, Nat.le_of_ble_eq_true rfl, Nat.le_of_ble_eq_true rfl⟩ rfl rfl (Nat.le_of_ble_eq_true rfl) ⟨show cells + 1 ≤ 601024 by omega, show slots + 6 ≤ 7293034 by omega⟩ dL_law_1726) hS (fun q h => h.elim (fun h => (hJ1 q h).1) (fun h => Nat.le_trans hJ3 (Nat.le_of_eq h.symm))) (fun kc H1 locs hp1 z1 oq1 hS => ?_)
  obtain ⟨ek, g9, hol, hcl⟩ := hp1
  have hmw := hmw.keep oq1 (fun q hq h => h.elim (fun h => (hJ1 q h).2.1 hq) (fun h => (hJ2 q hq).2.1 h))
  have hod : oD D cy o2 f2 H1 := kP_keepA hod oq1 (fun h => h.elim (fun h => (hJ1 o2 h).2.2.2 rfl) (fun h => hJ5 h.symm))
  refine lv_istore (lv' := [(6, .int kc), (0, .ref b), (1, .ref (ad 0)), (2, .ref (md 0)), (3, .ref o1), (4, .ref o2), (5, .int (nI w))]) hx hb dL_law_1729 hl (by decide) rfl (fun ls hl => ?_)
  have hml : c.maxLocals = ls.size := hml9.trans hl.1.symm
  refine lv_aload_n hx hb dL_law_1731 rfl (lv_at hl 3 rfl) ?_
  refine k_arg (j := 1) (kv := 1) hx hb hXs hbl hbA hS (lv_at hl 1 rfl) (lv_at hl 6 rfl) (by omega) (by omega) (by decide) (by decide) dL_law_1732 dL_law_1733 dL_law_1735 dL_law_1736 dL_law_1737 rfl ?_
  refine k_arg (j := 2) (kv := 2) hx hb hXs hbl hbA hS (lv_at hl 1 rfl) (lv_at hl 6 rfl) (by omega) (by omega) (by decide) (by decide) dL_law_1738 dL_law_1739 dL_law_1741 dL_law_1742 dL_law_1743 rfl ?_
  refine kc_ui (kr_V (As := [.int (xs (w + 1)), .int (xs (w + 2))]) (rest := []) hx hb hml hown hG (c_X7_wouldSee l D cy md N co su hM ns nt nr hL hMN (xs (w + 1)) (xs (w + 2))) cf_X7_wouldSee wM_L_179 hmw.o rfl hmw ⟨rfl, rfl, Nat.le_of_ble_eq_true rfl, Nat.le_of_ble_eq_true rfl⟩ rfl rfl (Nat.le_of_ble_eq_true rfl) ⟨show cells + 1 + 0 ≤ 601024 by omega, show slots + 6 + 0 ≤ 7293034 by omega⟩ dL_law_1744) hS (fun q h => (hJ2 q h).1) (fun r7 H2 locs hp2 z2 oq2 hS => ?_)
  have hol : oL D cy o1 g9 H2 := kP_keepA hol oq2 (fun h => (hJ2 o1 h).2.1 rfl)
  have hod : oD D cy o2 f2 H2 := kP_keepA hod oq2 (fun h => (hJ2 o2 h).2.2 rfl)
  refine lv_istore (lv' := [(7, .int r7), (6, .int kc), (0, .ref b), (1, .ref (ad 0)), (2, .ref (md 0)), (3, .ref o1), (4, .ref o2), (5, .int (nI w))]) hx hb dL_law_1747 hl (by decide) rfl (fun ls hl => ?_)
  rcases hcl with ⟨hk, hcw⟩ | ⟨r, hf0, hk, i, hi, ei, er, hcw⟩
  · have hcw := hcw.keep oq2 (fun q hq h => (hJ1 q hq).2.1 h)
    rcases hp2 with ⟨k1, hmw⟩ | ⟨k1, hmw⟩ | ⟨k1, -⟩
    · exact k_tail (t := 1749) (l := l) hx hb hml9 hown hG dL_law_1749 dL_law_1750 dL_law_1753 dL_law_1755 dL_law_1760 dL_law_1762 dL_law_1765 dL_law_1766 dL_law_1767 dL_law_1768 dL_law_1770 dL_law_1771 dL_law_1772 dL_law_1777 (by decide) hl hmw (show thr N 1 0 0 = kc from k1.symm.trans ((rfl).trans ek.symm)) hol (fun q => absurd (ek.symm.trans q) hk) (by omega) (by omega) ⟨hc, hs⟩ (fun ls1 hl1 => kk _ _ _ (LI.mk ((hR.no 1).next hn) hA hM hJ hcw hmw hol hod rfl) hS hl1)
    · exact k_tail (t := 1749) (l := l) hx hb hml9 hown hG dL_law_1749 dL_law_1750 dL_law_1753 dL_law_1755 dL_law_1760 dL_law_1762 dL_law_1765 dL_law_1766 dL_law_1767 dL_law_1768 dL_law_1770 dL_law_1771 dL_law_1772 dL_law_1777 (by decide) hl hmw (show thr N 2 0 0 = kc from k1.symm.trans ((rfl).trans ek.symm)) hol (fun q => absurd (ek.symm.trans q) hk) (by omega) (by omega) ⟨hc, hs⟩ (fun ls1 hl1 => kk _ _ _ (LI.mk ((hR.no 2).next hn) hA hM hJ hcw hmw hol hod rfl) hS hl1)
    · exact absurd ((rfl).symm.trans k1) hk
  · have hcw := hcw.keep oq2 (fun q hq h => (hJ1 q hq).2.1 h)
    rcases hp2 with ⟨k1, -⟩ | ⟨k1, -⟩ | ⟨k1, i2, hi2, ei2, er2, hmw⟩
    · exact absurd (k1.symm.trans ((rfl).trans hk)) (show ¬ (1 : Int32) = 0 by decide)
    · exact absurd (k1.symm.trans ((rfl).trans hk)) (show ¬ (2 : Int32) = 0 by decide)
    · obtain rfl : i2 = i := (nI_eq (by omega) (by omega)).mp (ei2.symm.trans ei)
      have hq := eSet (hR.no 0) hi2 (xs (w + 2)) ns (Nat.le_refl _)
      exact k_tail (t := 1749) (l := l) hx hb hml9 hown hG dL_law_1749 dL_law_1750 dL_law_1753 dL_law_1755 dL_law_1760 dL_law_1762 dL_law_1765 dL_law_1766 dL_law_1767 dL_law_1768 dL_law_1770 dL_law_1771 dL_law_1772 dL_law_1777 (by decide) hl hmw (hk.symm.trans ek.symm) hol (fun _ => by rw [hf0, er, er2, hq]) (by omega) (by omega) ⟨hc, hs⟩ (fun ls1 hl1 => kk _ _ _ (LI.mk ((hR.no 0).next hn) hA hM hJ hcw hmw hol hod rfl) hS hl1)
set_option maxHeartbeats 4000000 in
set_option maxRecDepth 100000 in
theorem law_heardIn (l : Launch) (hlf : l.stackTraces = false) {D : va_G} {cy : Nat → ClassId} {p : Program} {e : Env} {s : State} {m : MethodId} {args : Array Value} {below : List Frame} {meth : Method} {c : Code} {b L : Nat} {xs : Nat → Int32} (hC : LC D cy p s m meth c b L xs) (hL3 : L ≤ 3072) {Q : State → Prop} {n w x m0 o1 o2 : Nat} {H : Heap} {locs : List Loc} {cells slots : Nat} {ls : Array Slot} (hI : LI D cy s.heap.size x m0 o1 o2 n H) (hn : n < 512) (hw6 : w + 6 ≤ L) (hS : va_S (fun q => s.heap.size ≤ q) s.heap H locs) (hc : cells + 51 ≤ 601024) (hs : slots + 669 ≤ 7293034) (hl : lv_has ls 9 [(0, .ref b), (1, .ref x), (2, .ref m0), (3, .ref o1), (4, .ref o2), (5, .int (nI w))])
    (kk : ∀ (H1 : Heap) (locs1 : List Loc) (ls1 : Array Slot), LI D cy s.heap.size x m0 o1 o2 (n + 1) H1 → va_S (fun q => s.heap.size ≤ q) s.heap H1 locs1 → lv_has ls1 9 [(0, .ref b), (1, .ref x), (2, .ref m0), (3, .ref o1), (4, .ref o2), (5, .int (nI w))] → W p l e room_1 s m args below meth c H1 locs1 (cells + 51) (slots + 669) Q (F0 m 1986 ls1 [])) :
    W p l e room_1 s m args below meth c H locs cells slots Q (F0 m 1780 ls []) := by
  obtain ⟨⟨hx, hb, hml9, hown⟩, ⟨hG, hX, hGz, hAW, hN⟩, hXs, hbl⟩ := hC
  obtain ⟨ep, ns, nt, nr, M, N, V, co, su, ad, md, f1, f2, hR, hA, hM, hJ, hcw, hmw, hol, hod, rfl, rfl⟩ := hI
  have hbA : ¬ (fun q => s.heap.size ≤ q) b := Nat.not_le.mpr hbl
  have hL := hR.1.1
  have hL8 := hL.1
  have hLt := hL.2.1
  have hLr := hL.2.2
  have hMN := hR.2.1.2.2.1
  have hml : c.maxLocals = ls.size := hml9.trans hl.1.symm
  have hz : s.heap.size ≤ H.size := hS.1
  obtain ⟨hJ1, hJ2, hJ3, hJ4, hJ5⟩ := id hJ
  have hep : ep < 2 ^ 31 := by have := hR.1.2; omega
  have hmlt := MA.lt hmw
  have hclt := CA.lt hcw hL
  have ho1 : o1 < H.size := (hol 0 _ rfl).lt
  have ho2 : o2 < H.size := (hod 0 _ rfl).lt
  refine lv_aload_n hx hb dL_law_1780 rfl (lv_at hl 1 rfl) ?_
  refine k_arg (j := 1) (kv := 1) hx hb hXs hbl hbA hS (lv_at hl 0 rfl) (lv_at hl 5 rfl) (by omega) (by omega) (by decide) (by decide) dL_law_1781 dL_law_1782 dL_law_1784 dL_law_1785 dL_law_1786 rfl ?_
  refine k_arg (j := 2) (kv := 2) hx hb hXs hbl hbA hS (lv_at hl 0 rfl) (lv_at hl 5 rfl) (by omega) (by omega) (by decide) (by decide) dL_law_1787 dL_law_1788 dL_law_1790 dL_law_1791 dL_law_1792 rfl ?_
  refine lv_aload_n hx hb dL_law_1793 rfl (lv_at hl 3 rfl) ?_
  refine kc_ui (kx_SW (As := [.ref (ad 0), .int (xs (w + 1)), .int (xs (w + 2)), .ref o1]) (rest := []) hx hb hml hown hG (c_L_heardIn l hlf D cy ad ns nt nr hL M V hA (xs (w + 1)) (xs (w + 2)) o1 f1 (fun h => (hJ1 o1 h).2.2.1 rfl)) cfL_heardIn wM_L_180 (PL.preS hG hX (hGz.at hS) hAW hN ⟨hcw, hol⟩) ⟨rfl, rfl, Nat.le_of_ble_eq_true rfl, Nat.le_of_ble_eq_true rfl⟩ rfl rfl (Nat.le_of_ble_eq_true rfl) ⟨show cells + 1 ≤ 601024 by omega, show slots + 6 ≤ 7293034 by omega⟩ dL_law_1794) hS (fun q h => h.elim (fun h => (hJ1 q h).1) (fun h => Nat.le_trans hJ3 (Nat.le_of_eq h.symm))) (fun kc H1 locs hp1 z1 oq1 hS => ?_)
  obtain ⟨ek, g9, hol, hcl⟩ := hp1
  have hmw := hmw.keep oq1 (fun q hq h => h.elim (fun h => (hJ1 q h).2.1 hq) (fun h => (hJ2 q hq).2.1 h))
  have hod : oD D cy o2 f2 H1 := kP_keepA hod oq1 (fun h => h.elim (fun h => (hJ1 o2 h).2.2.2 rfl) (fun h => hJ5 h.symm))
  refine lv_istore (lv' := [(6, .int kc), (0, .ref b), (1, .ref (ad 0)), (2, .ref (md 0)), (3, .ref o1), (4, .ref o2), (5, .int (nI w))]) hx hb dL_law_1797 hl (by decide) rfl (fun ls hl => ?_)
  have hml : c.maxLocals = ls.size := hml9.trans hl.1.symm
  refine lv_aload_n hx hb dL_law_1799 rfl (lv_at hl 3 rfl) ?_
  refine k_arg (j := 1) (kv := 1) hx hb hXs hbl hbA hS (lv_at hl 1 rfl) (lv_at hl 6 rfl) (by omega) (by omega) (by decide) (by decide) dL_law_1800 dL_law_1801 dL_law_1803 dL_law_1804 dL_law_1805 rfl ?_
  refine k_arg (j := 2) (kv := 2) hx hb hXs hbl hbA hS (lv_at hl 1 rfl) (lv_at hl 6 rfl) (by omega) (by omega) (by decide) (by decide) dL_law_1806 dL_law_1807 dL_law_1809 dL_law_1810 dL_law_1811 rfl ?_
  refine kc_ui (kr_V (As := [.int (xs (w + 1)), .int (xs (w + 2))]) (rest := []) hx hb hml hown hG (c_X7_heardIn l D cy md N co su hM ns nt nr hL hMN (xs (w + 1)) (xs (w + 2))) cf_X7_heardIn wM_L_182 hmw.o rfl hmw ⟨rfl, rfl, Nat.le_of_ble_eq_true rfl, Nat.le_of_ble_eq_true rfl⟩ rfl rfl (Nat.le_of_ble_eq_true rfl) ⟨show cells + 1 + 0 ≤ 601024 by omega, show slots + 6 + 0 ≤ 7293034 by omega⟩ dL_law_1812) hS (fun q h => (hJ2 q h).1) (fun r7 H2 locs hp2 z2 oq2 hS => ?_)
  have hol : oL D cy o1 g9 H2 := kP_keepA hol oq2 (fun h => (hJ2 o1 h).2.1 rfl)
  have hod : oD D cy o2 f2 H2 := kP_keepA hod oq2 (fun h => (hJ2 o2 h).2.2 rfl)
  refine lv_istore (lv' := [(7, .int r7), (6, .int kc), (0, .ref b), (1, .ref (ad 0)), (2, .ref (md 0)), (3, .ref o1), (4, .ref o2), (5, .int (nI w))]) hx hb dL_law_1815 hl (by decide) rfl (fun ls hl => ?_)
  rcases hcl with ⟨hk, hcw⟩ | ⟨r, hf0, hk, i, j, hi, hj, ei, ej, er, hcw⟩
  · have hcw := hcw.keep oq2 (fun q hq h => (hJ1 q hq).2.1 h)
    rcases hp2 with ⟨k1, hmw⟩ | ⟨k1, hmw⟩ | ⟨k1, -⟩
    · exact k_tail (t := 1817) (l := l) hx hb hml9 hown hG dL_law_1817 dL_law_1818 dL_law_1821 dL_law_1823 dL_law_1828 dL_law_1830 dL_law_1833 dL_law_1834 dL_law_1835 dL_law_1836 dL_law_1838 dL_law_1839 dL_law_1840 dL_law_1845 (by decide) hl hmw (show thr N 1 0 0 = kc from k1.symm.trans ((rfl).trans ek.symm)) hol (fun q => absurd (ek.symm.trans q) hk) (by omega) (by omega) ⟨hc, hs⟩ (fun ls1 hl1 => kk _ _ _ (LI.mk ((hR.no 1).next hn) hA hM hJ hcw hmw hol hod rfl) hS hl1)
    · exact k_tail (t := 1817) (l := l) hx hb hml9 hown hG dL_law_1817 dL_law_1818 dL_law_1821 dL_law_1823 dL_law_1828 dL_law_1830 dL_law_1833 dL_law_1834 dL_law_1835 dL_law_1836 dL_law_1838 dL_law_1839 dL_law_1840 dL_law_1845 (by decide) hl hmw (show thr N 2 0 0 = kc from k1.symm.trans ((rfl).trans ek.symm)) hol (fun q => absurd (ek.symm.trans q) hk) (by omega) (by omega) ⟨hc, hs⟩ (fun ls1 hl1 => kk _ _ _ (LI.mk ((hR.no 2).next hn) hA hM hJ hcw hmw hol hod rfl) hS hl1)
    · exact absurd ((rfl).symm.trans k1) hk
  · have hcw := hcw.keep oq2 (fun q hq h => (hJ1 q hq).2.1 h)
    rcases hp2 with ⟨k1, -⟩ | ⟨k1, -⟩ | ⟨k1, i2, j2, hi2, hj2, ei2, ej2, er2, hmw⟩
    · exact absurd (k1.symm.trans ((rfl).trans hk)) (show ¬ (1 : Int32) = 0 by decide)
    · exact absurd (k1.symm.trans ((rfl).trans hk)) (show ¬ (2 : Int32) = 0 by decide)
    · obtain rfl : i2 = i := (nI_eq (by omega) (by omega)).mp (ei2.symm.trans ei)
      obtain rfl : j2 = j := (nI_eq (by omega) (by omega)).mp (ej2.symm.trans ej)
      have hq := eFs ((hR.no 0).2.2.1 i2 hi2).1 ((hR.no 0).2.2.1 i2 hi2).2.1 ((hR.no 0).2.2.2.2.1 j2 hj2).1 49 0
      exact k_tail (t := 1817) (l := l) hx hb hml9 hown hG dL_law_1817 dL_law_1818 dL_law_1821 dL_law_1823 dL_law_1828 dL_law_1830 dL_law_1833 dL_law_1834 dL_law_1835 dL_law_1836 dL_law_1838 dL_law_1839 dL_law_1840 dL_law_1845 (by decide) hl hmw (hk.symm.trans ek.symm) hol (fun _ => by rw [hf0, er, er2, hq]) (by omega) (by omega) ⟨hc, hs⟩ (fun ls1 hl1 => kk _ _ _ (LI.mk ((hR.no 0).next hn) hA hM hJ hcw hmw hol hod rfl) hS hl1)
set_option maxHeartbeats 4000000 in
set_option maxRecDepth 100000 in
theorem law_without (l : Launch) (hlf : l.stackTraces = false) {D : va_G} {cy : Nat → ClassId} {p : Program} {e : Env} {s : State} {m : MethodId} {args : Array Value} {below : List Frame} {meth : Method} {c : Code} {b L : Nat} {xs : Nat → Int32} (hC : LC D cy p s m meth c b L xs) (hL3 : L ≤ 3072) {Q : State → Prop} {n w x m0 o1 o2 : Nat} {H : Heap} {locs : List Loc} {cells slots : Nat} {ls : Array Slot} (hI : LI D cy s.heap.size x m0 o1 o2 n H) (hn : n < 512) (hw6 : w + 6 ≤ L) (hS : va_S (fun q => s.heap.size ≤ q) s.heap H locs) (hc : cells + 51 ≤ 601024) (hs : slots + 669 ≤ 7293034) (hl : lv_has ls 9 [(0, .ref b), (1, .ref x), (2, .ref m0), (3, .ref o1), (4, .ref o2), (5, .int (nI w))])
    (kk : ∀ (H1 : Heap) (locs1 : List Loc) (ls1 : Array Slot), LI D cy s.heap.size x m0 o1 o2 (n + 1) H1 → va_S (fun q => s.heap.size ≤ q) s.heap H1 locs1 → lv_has ls1 9 [(0, .ref b), (1, .ref x), (2, .ref m0), (3, .ref o1), (4, .ref o2), (5, .int (nI w))] → W p l e room_1 s m args below meth c H1 locs1 (cells + 51) (slots + 669) Q (F0 m 1986 ls1 [])) :
    W p l e room_1 s m args below meth c H locs cells slots Q (F0 m 1848 ls []) := by
  obtain ⟨⟨hx, hb, hml9, hown⟩, ⟨hG, hX, hGz, hAW, hN⟩, hXs, hbl⟩ := hC
  obtain ⟨ep, ns, nt, nr, M, N, V, co, su, ad, md, f1, f2, hR, hA, hM, hJ, hcw, hmw, hol, hod, rfl, rfl⟩ := hI
  have hbA : ¬ (fun q => s.heap.size ≤ q) b := Nat.not_le.mpr hbl
  have hL := hR.1.1
  have hL8 := hL.1
  have hLt := hL.2.1
  have hLr := hL.2.2
  have hMN := hR.2.1.2.2.1
  have hml : c.maxLocals = ls.size := hml9.trans hl.1.symm
  have hz : s.heap.size ≤ H.size := hS.1
  obtain ⟨hJ1, hJ2, hJ3, hJ4, hJ5⟩ := id hJ
  have hep : ep < 2 ^ 31 := by have := hR.1.2; omega
  have hmlt := MA.lt hmw
  have hclt := CA.lt hcw hL
  have ho1 : o1 < H.size := (hol 0 _ rfl).lt
  have ho2 : o2 < H.size := (hod 0 _ rfl).lt
  refine lv_aload_n hx hb dL_law_1848 rfl (lv_at hl 1 rfl) ?_
  refine k_arg (j := 1) (kv := 1) hx hb hXs hbl hbA hS (lv_at hl 0 rfl) (lv_at hl 5 rfl) (by omega) (by omega) (by decide) (by decide) dL_law_1849 dL_law_1850 dL_law_1852 dL_law_1853 dL_law_1854 rfl ?_
  refine k_arg (j := 2) (kv := 2) hx hb hXs hbl hbA hS (lv_at hl 0 rfl) (lv_at hl 5 rfl) (by omega) (by omega) (by decide) (by decide) dL_law_1855 dL_law_1856 dL_law_1858 dL_law_1859 dL_law_1860 rfl ?_
  refine lv_aload_n hx hb dL_law_1861 rfl (lv_at hl 3 rfl) ?_
  refine kc_ui (kx_SW (As := [.ref (ad 0), .int (xs (w + 1)), .int (xs (w + 2)), .ref o1]) (rest := []) hx hb hml hown hG (c_L_without l hlf D cy ad ns nt nr hL M V hA (xs (w + 1)) (xs (w + 2)) o1 f1 (fun h => (hJ1 o1 h).2.2.1 rfl)) cfL_without wM_L_183 (PL.preS hG hX (hGz.at hS) hAW hN ⟨hcw, hol⟩) ⟨rfl, rfl, Nat.le_of_ble_eq_true rfl, Nat.le_of_ble_eq_true rfl⟩ rfl rfl (Nat.le_of_ble_eq_true rfl) ⟨show cells + 1 ≤ 601024 by omega, show slots + 6 ≤ 7293034 by omega⟩ dL_law_1862) hS (fun q h => h.elim (fun h => (hJ1 q h).1) (fun h => Nat.le_trans hJ3 (Nat.le_of_eq h.symm))) (fun kc H1 locs hp1 z1 oq1 hS => ?_)
  obtain ⟨ek, g9, hol, hcl⟩ := hp1
  have hmw := hmw.keep oq1 (fun q hq h => h.elim (fun h => (hJ1 q h).2.1 hq) (fun h => (hJ2 q hq).2.1 h))
  have hod : oD D cy o2 f2 H1 := kP_keepA hod oq1 (fun h => h.elim (fun h => (hJ1 o2 h).2.2.2 rfl) (fun h => hJ5 h.symm))
  refine lv_istore (lv' := [(6, .int kc), (0, .ref b), (1, .ref (ad 0)), (2, .ref (md 0)), (3, .ref o1), (4, .ref o2), (5, .int (nI w))]) hx hb dL_law_1865 hl (by decide) rfl (fun ls hl => ?_)
  have hml : c.maxLocals = ls.size := hml9.trans hl.1.symm
  refine lv_aload_n hx hb dL_law_1867 rfl (lv_at hl 3 rfl) ?_
  refine k_arg (j := 1) (kv := 1) hx hb hXs hbl hbA hS (lv_at hl 1 rfl) (lv_at hl 6 rfl) (by omega) (by omega) (by decide) (by decide) dL_law_1868 dL_law_1869 dL_law_1871 dL_law_1872 dL_law_1873 rfl ?_
  refine k_arg (j := 2) (kv := 2) hx hb hXs hbl hbA hS (lv_at hl 1 rfl) (lv_at hl 6 rfl) (by omega) (by omega) (by decide) (by decide) dL_law_1874 dL_law_1875 dL_law_1877 dL_law_1878 dL_law_1879 rfl ?_
  refine kc_ui (kr_V (As := [.int (xs (w + 1)), .int (xs (w + 2))]) (rest := []) hx hb hml hown hG (c_X7_without l D cy md N co su hM ns nt nr hL hMN hR.ref (xs (w + 1)) (xs (w + 2))) cf_X7_without wM_L_185 hmw.o rfl hmw ⟨rfl, rfl, Nat.le_of_ble_eq_true rfl, Nat.le_of_ble_eq_true rfl⟩ rfl rfl (Nat.le_of_ble_eq_true rfl) ⟨show cells + 1 + 0 ≤ 601024 by omega, show slots + 6 + 0 ≤ 7293034 by omega⟩ dL_law_1880) hS (fun q h => (hJ2 q h).1) (fun r7 H2 locs hp2 z2 oq2 hS => ?_)
  have hol : oL D cy o1 g9 H2 := kP_keepA hol oq2 (fun h => (hJ2 o1 h).2.1 rfl)
  have hod : oD D cy o2 f2 H2 := kP_keepA hod oq2 (fun h => (hJ2 o2 h).2.2 rfl)
  refine lv_istore (lv' := [(7, .int r7), (6, .int kc), (0, .ref b), (1, .ref (ad 0)), (2, .ref (md 0)), (3, .ref o1), (4, .ref o2), (5, .int (nI w))]) hx hb dL_law_1883 hl (by decide) rfl (fun ls hl => ?_)
  rcases hcl with ⟨hk, hcw⟩ | ⟨r, hf0, hk, i, j, hi, hj, ei, ej, er, V2, hcw⟩
  · have hcw := hcw.keep oq2 (fun q hq h => (hJ1 q hq).2.1 h)
    rcases hp2 with ⟨k1, hmw⟩ | ⟨k1, hmw⟩ | ⟨k1, -⟩
    · exact k_tail (t := 1885) (l := l) hx hb hml9 hown hG dL_law_1885 dL_law_1886 dL_law_1889 dL_law_1891 dL_law_1896 dL_law_1898 dL_law_1901 dL_law_1902 dL_law_1903 dL_law_1904 dL_law_1906 dL_law_1907 dL_law_1908 dL_law_1913 (by decide) hl hmw (show thr N 1 0 0 = kc from k1.symm.trans ((rfl).trans ek.symm)) hol (fun q => absurd (ek.symm.trans q) hk) (by omega) (by omega) ⟨hc, hs⟩ (fun ls1 hl1 => kk _ _ _ (LI.mk ((hR.no 1).next hn) hA hM hJ hcw hmw hol hod rfl) hS hl1)
    · exact k_tail (t := 1885) (l := l) hx hb hml9 hown hG dL_law_1885 dL_law_1886 dL_law_1889 dL_law_1891 dL_law_1896 dL_law_1898 dL_law_1901 dL_law_1902 dL_law_1903 dL_law_1904 dL_law_1906 dL_law_1907 dL_law_1908 dL_law_1913 (by decide) hl hmw (show thr N 2 0 0 = kc from k1.symm.trans ((rfl).trans ek.symm)) hol (fun q => absurd (ek.symm.trans q) hk) (by omega) (by omega) ⟨hc, hs⟩ (fun ls1 hl1 => kk _ _ _ (LI.mk ((hR.no 2).next hn) hA hM hJ hcw hmw hol hod rfl) hS hl1)
    · exact absurd ((rfl).symm.trans k1) hk
  · have hcw := hcw.keep oq2 (fun q hq h => (hJ1 q hq).2.1 h)
    rcases hp2 with ⟨k1, -⟩ | ⟨k1, -⟩ | ⟨k1, i2, j2, hi2, hj2, ei2, ej2, er2, B9, hmw⟩
    · exact absurd (k1.symm.trans ((rfl).trans hk)) (show ¬ (1 : Int32) = 0 by decide)
    · exact absurd (k1.symm.trans ((rfl).trans hk)) (show ¬ (2 : Int32) = 0 by decide)
    · obtain rfl : i2 = i := (nI_eq (by omega) (by omega)).mp (ei2.symm.trans ei)
      obtain rfl : j2 = j := (nI_eq (by omega) (by omega)).mp (ej2.symm.trans ej)
      have hq := S_without (j := j2) (hR.no 0) hi2 V co
      exact k_tail (t := 1885) (l := l) hx hb hml9 hown hG dL_law_1885 dL_law_1886 dL_law_1889 dL_law_1891 dL_law_1896 dL_law_1898 dL_law_1901 dL_law_1902 dL_law_1903 dL_law_1904 dL_law_1906 dL_law_1907 dL_law_1908 dL_law_1913 (by decide) hl hmw (((mSame_B _ _ _ _ _ _ _).1 0 (by decide)).trans (hk.symm.trans ek.symm)) hol (fun _ => by rw [hf0, er, er2, ej, hq]) (by omega) (by omega) ⟨hc, hs⟩ (fun ls1 hl1 => kk _ _ _ (LI.mk ((hR.no 0).same hn (mSame_B _ _ _ _ _ _ _)) hA hM hJ hcw hmw hol hod rfl) hS hl1)
set_option maxHeartbeats 4000000 in
set_option maxRecDepth 100000 in
theorem law_wouldAlarm (l : Launch) (hlf : l.stackTraces = false) {D : va_G} {cy : Nat → ClassId} {p : Program} {e : Env} {s : State} {m : MethodId} {args : Array Value} {below : List Frame} {meth : Method} {c : Code} {b L : Nat} {xs : Nat → Int32} (hC : LC D cy p s m meth c b L xs) (hL3 : L ≤ 3072) {Q : State → Prop} {n w x m0 o1 o2 : Nat} {H : Heap} {locs : List Loc} {cells slots : Nat} {ls : Array Slot} (hI : LI D cy s.heap.size x m0 o1 o2 n H) (hn : n < 512) (hw6 : w + 6 ≤ L) (hS : va_S (fun q => s.heap.size ≤ q) s.heap H locs) (hc : cells + 51 ≤ 601024) (hs : slots + 669 ≤ 7293034) (hl : lv_has ls 9 [(0, .ref b), (1, .ref x), (2, .ref m0), (3, .ref o1), (4, .ref o2), (5, .int (nI w))])
    (kk : ∀ (H1 : Heap) (locs1 : List Loc) (ls1 : Array Slot), LI D cy s.heap.size x m0 o1 o2 (n + 1) H1 → va_S (fun q => s.heap.size ≤ q) s.heap H1 locs1 → lv_has ls1 9 [(0, .ref b), (1, .ref x), (2, .ref m0), (3, .ref o1), (4, .ref o2), (5, .int (nI w))] → W p l e room_1 s m args below meth c H1 locs1 (cells + 51) (slots + 669) Q (F0 m 1986 ls1 [])) :
    W p l e room_1 s m args below meth c H locs cells slots Q (F0 m 1916 ls []) := by
  obtain ⟨⟨hx, hb, hml9, hown⟩, ⟨hG, hX, hGz, hAW, hN⟩, hXs, hbl⟩ := hC
  obtain ⟨ep, ns, nt, nr, M, N, V, co, su, ad, md, f1, f2, hR, hA, hM, hJ, hcw, hmw, hol, hod, rfl, rfl⟩ := hI
  have hbA : ¬ (fun q => s.heap.size ≤ q) b := Nat.not_le.mpr hbl
  have hL := hR.1.1
  have hL8 := hL.1
  have hLt := hL.2.1
  have hLr := hL.2.2
  have hMN := hR.2.1.2.2.1
  have hml : c.maxLocals = ls.size := hml9.trans hl.1.symm
  have hz : s.heap.size ≤ H.size := hS.1
  obtain ⟨hJ1, hJ2, hJ3, hJ4, hJ5⟩ := id hJ
  have hep : ep < 2 ^ 31 := by have := hR.1.2; omega
  have hmlt := MA.lt hmw
  have hclt := CA.lt hcw hL
  have ho1 : o1 < H.size := (hol 0 _ rfl).lt
  have ho2 : o2 < H.size := (hod 0 _ rfl).lt
  refine lv_aload_n hx hb dL_law_1916 rfl (lv_at hl 1 rfl) ?_
  refine k_arg (j := 1) (kv := 1) hx hb hXs hbl hbA hS (lv_at hl 0 rfl) (lv_at hl 5 rfl) (by omega) (by omega) (by decide) (by decide) dL_law_1917 dL_law_1918 dL_law_1920 dL_law_1921 dL_law_1922 rfl ?_
  refine lv_aload_n hx hb dL_law_1923 rfl (lv_at hl 3 rfl) ?_
  refine kc_ui (kx_SW (As := [.ref (ad 0), .int (xs (w + 1)), .ref o1]) (rest := []) hx hb hml hown hG (c_L_wouldAlarm l hlf D cy ad ns nt nr hL M V hA (xs (w + 1)) o1 f1 (fun h => (hJ1 o1 h).2.2.1 rfl)) cfL_wouldAlarm wM_L_186 (PL.preS hG hX (hGz.at hS) hAW hN ⟨hcw, hol⟩) ⟨rfl, rfl, Nat.le_of_ble_eq_true rfl, Nat.le_of_ble_eq_true rfl⟩ rfl rfl (Nat.le_of_ble_eq_true rfl) ⟨show cells + 1 ≤ 601024 by omega, show slots + 6 ≤ 7293034 by omega⟩ dL_law_1924) hS (fun q h => h.elim (fun h => (hJ1 q h).1) (fun h => Nat.le_trans hJ3 (Nat.le_of_eq h.symm))) (fun kc H1 locs hp1 z1 oq1 hS => ?_)
  obtain ⟨ek, g9, hol, hcl⟩ := hp1
  have hmw := hmw.keep oq1 (fun q hq h => h.elim (fun h => (hJ1 q h).2.1 hq) (fun h => (hJ2 q hq).2.1 h))
  have hod : oD D cy o2 f2 H1 := kP_keepA hod oq1 (fun h => h.elim (fun h => (hJ1 o2 h).2.2.2 rfl) (fun h => hJ5 h.symm))
  refine lv_istore (lv' := [(6, .int kc), (0, .ref b), (1, .ref (ad 0)), (2, .ref (md 0)), (3, .ref o1), (4, .ref o2), (5, .int (nI w))]) hx hb dL_law_1927 hl (by decide) rfl (fun ls hl => ?_)
  have hml : c.maxLocals = ls.size := hml9.trans hl.1.symm
  refine lv_aload_n hx hb dL_law_1929 rfl (lv_at hl 3 rfl) ?_
  refine k_arg (j := 1) (kv := 1) hx hb hXs hbl hbA hS (lv_at hl 1 rfl) (lv_at hl 6 rfl) (by omega) (by omega) (by decide) (by decide) dL_law_1930 dL_law_1931 dL_law_1933 dL_law_1934 dL_law_1935 rfl ?_
  refine kc_ui (kr_V (As := [.int (xs (w + 1))]) (rest := []) hx hb hml hown hG (c_X7_wouldAlarm l D cy md N co su hM ns nt nr hL hMN hR.ref (xs (w + 1))) cf_X7_wouldAlarm wM_L_188 hmw.o rfl hmw ⟨rfl, rfl, Nat.le_of_ble_eq_true rfl, Nat.le_of_ble_eq_true rfl⟩ rfl rfl (Nat.le_of_ble_eq_true rfl) ⟨show cells + 1 + 0 ≤ 601024 by omega, show slots + 6 + 0 ≤ 7293034 by omega⟩ dL_law_1936) hS (fun q h => (hJ2 q h).1) (fun r7 H2 locs hp2 z2 oq2 hS => ?_)
  have hol : oL D cy o1 g9 H2 := kP_keepA hol oq2 (fun h => (hJ2 o1 h).2.1 rfl)
  have hod : oD D cy o2 f2 H2 := kP_keepA hod oq2 (fun h => (hJ2 o2 h).2.2 rfl)
  refine lv_istore (lv' := [(7, .int r7), (6, .int kc), (0, .ref b), (1, .ref (ad 0)), (2, .ref (md 0)), (3, .ref o1), (4, .ref o2), (5, .int (nI w))]) hx hb dL_law_1939 hl (by decide) rfl (fun ls hl => ?_)
  rcases hcl with ⟨hk, hcw⟩ | ⟨r, hf0, hk, i, hi, ei, er, V2, hcw⟩
  · have hcw := hcw.keep oq2 (fun q hq h => (hJ1 q hq).2.1 h)
    rcases hp2 with ⟨k1, hmw⟩ | ⟨k1, hmw⟩ | ⟨k1, -⟩
    · exact k_tail (t := 1941) (l := l) hx hb hml9 hown hG dL_law_1941 dL_law_1942 dL_law_1945 dL_law_1947 dL_law_1952 dL_law_1954 dL_law_1957 dL_law_1958 dL_law_1959 dL_law_1960 dL_law_1962 dL_law_1963 dL_law_1964 dL_law_1969 (by decide) hl hmw (show thr N 1 0 0 = kc from k1.symm.trans ((rfl).trans ek.symm)) hol (fun q => absurd (ek.symm.trans q) hk) (by omega) (by omega) ⟨hc, hs⟩ (fun ls1 hl1 => kk _ _ _ (LI.mk ((hR.no 1).next hn) hA hM hJ hcw hmw hol hod rfl) hS hl1)
    · exact k_tail (t := 1941) (l := l) hx hb hml9 hown hG dL_law_1941 dL_law_1942 dL_law_1945 dL_law_1947 dL_law_1952 dL_law_1954 dL_law_1957 dL_law_1958 dL_law_1959 dL_law_1960 dL_law_1962 dL_law_1963 dL_law_1964 dL_law_1969 (by decide) hl hmw (show thr N 2 0 0 = kc from k1.symm.trans ((rfl).trans ek.symm)) hol (fun q => absurd (ek.symm.trans q) hk) (by omega) (by omega) ⟨hc, hs⟩ (fun ls1 hl1 => kk _ _ _ (LI.mk ((hR.no 2).next hn) hA hM hJ hcw hmw hol hod rfl) hS hl1)
    · exact absurd ((rfl).symm.trans k1) hk
  · have hcw := hcw.keep oq2 (fun q hq h => (hJ1 q hq).2.1 h)
    rcases hp2 with ⟨k1, -⟩ | ⟨k1, -⟩ | ⟨k1, i2, hi2, ei2, er2, B9, hmw⟩
    · exact absurd (k1.symm.trans ((rfl).trans hk)) (show ¬ (1 : Int32) = 0 by decide)
    · exact absurd (k1.symm.trans ((rfl).trans hk)) (show ¬ (2 : Int32) = 0 by decide)
    · obtain rfl : i2 = i := (nI_eq (by omega) (by omega)).mp (ei2.symm.trans ei)
      have hq := S_alarm (hR.no 0) hi2 V co
      exact k_tail (t := 1941) (l := l) hx hb hml9 hown hG dL_law_1941 dL_law_1942 dL_law_1945 dL_law_1947 dL_law_1952 dL_law_1954 dL_law_1957 dL_law_1958 dL_law_1959 dL_law_1960 dL_law_1962 dL_law_1963 dL_law_1964 dL_law_1969 (by decide) hl hmw (((mSame_B _ _ _ _ _ _ _).1 0 (by decide)).trans (hk.symm.trans ek.symm)) hol (fun _ => by rw [hf0, er, er2, hq]) (by omega) (by omega) ⟨hc, hs⟩ (fun ls1 hl1 => kk _ _ _ (LI.mk ((hR.no 0).same hn (mSame_B _ _ _ _ _ _ _)) hA hM hJ hcw hmw hol hod rfl) hS hl1)
