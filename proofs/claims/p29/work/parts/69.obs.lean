-- an observation: what is seen, what is used, what is offered, what the track keeps
section OB1
variable {e n ns nt nr i : Nat} {M : Nat → Nat → Int32}
def oM1 (M : Nat → Nat → Int32) (ns i : Nat) : Nat → Nat → Int32 := pMs M i ns
def oM2 (M : Nat → Nat → Int32) (ns nr i : Nat) : Nat → Nat → Int32 := pGM (pMs M i ns) nr i ns
theorem pSgs_in {M : Nat → Nat → Int32} {i n : Nat} {f : Nat → (Nat → Int32) → (Nat → Int32)} {j : Nat} (hj : j < n) : pSgs M i n f (60 + 8 * i + j) = f j (M (60 + 8 * i + j)) := by
  unfold pSgs
  rw [if_pos (by omega), show 60 + 8 * i + j - (60 + 8 * i) = j by omega]
theorem pSgs_out {M : Nat → Nat → Int32} {i n : Nat} {f : Nat → (Nat → Int32) → (Nat → Int32)} {k : Nat} (h : k < 60 + 8 * i ∨ 60 + 8 * i + n ≤ k) : pSgs M i n f k = M k := by
  unfold pSgs
  rw [if_neg (by omega)]
/-- only this receiver's sights are others -/
theorem obM_out {k : Nat} (h : k < 60 + 8 * i ∨ 60 + 8 * i + ns ≤ k) : obM M ns nr i k = M k := by
  unfold obM pOf
  split
  · rw [pSgs_out h]
    unfold pGM
    rw [pSgs_out h]
    unfold pMs
    rw [pSgs_out h]
  · rw [pSgs_out h, pSgs_out h]
    unfold pGM
    rw [pSgs_out h]
    unfold pMs
    rw [pSgs_out h]
theorem oM1_out {k : Nat} (h : k < 60 + 8 * i ∨ 60 + 8 * i + ns ≤ k) : oM1 M ns i k = M k := by
  unfold oM1 pMs
  rw [pSgs_out h]
theorem oM2_out {k : Nat} (h : k < 60 + 8 * i ∨ 60 + 8 * i + ns ≤ k) : oM2 M ns nr i k = M k := by
  unfold oM2 pGM
  rw [pSgs_out h]
  exact oM1_out h
/-- what is left of a code behind its wave -/
theorem left_IR {code wave : Int32} (hc : Bd code 1360) (hw : IR wave 0 9) : IR (gLeft code wave) (-5) 4 ∧ Bd (gCnt code wave) 1375 := by
  have h5 : IR (5 : Int32) 5 5 := IR.lit (by decide)
  have b1 : Bd (code - wave) 1369 := Bd.sub hc (hw.bd (K := 9) (by omega) (by omega)) (by decide)
  have b2 : Bd (code - wave + 5) 1374 := Bd.add b1 (show Bd 5 5 by unfold Bd; decide) (by decide)
  have b3 : Bd (gCnt code wave) 1375 := Bd.fdiv b2 (by decide) (by decide)
  obtain ⟨q1, q2⟩ := pFDiv_sp (x := code - wave + 5) (c := 10) (by decide)
  have e10 : (10 : Int32).toInt = 10 := by decide
  have e5 : (5 : Int32).toInt = 5 := by decide
  have ea : (code - wave + 5).toInt = (code - wave).toInt + 5 := by
    unfold Bd at b1
    rw [i_add (by rw [e5]; omega) (by rw [e5]; omega), e5]
  have em : (10 * gCnt code wave).toInt = 10 * (gCnt code wave).toInt := by
    unfold Bd at b3
    rw [i_mul (by rw [e10]; omega) (by rw [e10]; omega), e10]
  refine ⟨?_, b3⟩
  rw [e10, ea] at q1 q2
  have q1' : (gCnt code wave).toInt * 10 ≤ (code - wave).toInt + 5 := q1
  have q2' : (code - wave).toInt + 5 < (gCnt code wave).toInt * 10 + 10 := q2
  unfold Bd at b1 b3
  unfold gLeft IR
  rw [i_sub (by rw [em]; omega) (by rw [em]; omega), em]
  omega
theorem JG.lose {g : Nat → Int32} : JG n (gLose g) ∧ gLose g 2 = 0 ∧ gLose g 0 = 0 :=
  ⟨⟨⟨Or.inl rfl, Or.inl rfl, Or.inl rfl⟩, fun _ => ⟨rfl, rfl⟩, fun q => absurd q (show ¬ (0 : Int32) = 1 by decide), fun _ => rfl, (show Bd 0 5394 from Bd0 _)⟩, rfl, rfl⟩
theorem gFix_01 (k s : Int32) : gFix k s = 0 ∨ gFix k s = 1 := by
  unfold gFix
  split
  · exact Or.inl rfl
  · split
    · exact Or.inl rfl
    · exact Or.inr rfl
theorem gFix_1 {a b : Nat} (ha : a < 2 ^ 31) (hb : b < 2 ^ 31) (h : gFix (nI a) (nI b) = 1) : 3 ≤ a ∧ 3 ≤ b := by
  unfold gFix at h
  by_cases c1 : nI a < 3
  · rw [if_pos c1] at h
    exact absurd h (by decide)
  · rw [if_neg c1] at h
    by_cases c2 : nI b < 3
    · rw [if_pos c2] at h
      exact absurd h (by decide)
    · have d1 : ¬ a < 3 := fun q => c1 ((nI_ltI (b := 3) ha (by decide)).mpr q)
      have d2 : ¬ b < 3 := fun q => c2 ((nI_ltI (b := 3) hb (by decide)).mpr q)
      omega
theorem JG.take {g : Nat → Int32} {code wave nx : Int32} (h : JG n g) (hn : n < 60) (hc : Bd code 1360) (hw : IR wave 0 9) : JG (n + 1) (gTake g code wave nx) ∧ gTake g code wave nx 2 = 0 ∧ gTake g code wave nx 0 = 1 ∧ (gTake g code wave nx 1 = 0 → gTake g code wave nx 3 = code) := by
  obtain ⟨⟨h0, -⟩, -, h3, -⟩ := h
  obtain ⟨hl, -⟩ := left_IR hc hw
  -- how long it is kept, how long steady
  have hk : ∃ a : Nat, 1 ≤ a ∧ a ≤ n + 1 ∧ gKept (gGo nx g) g = nI a ∧ ∃ b : Nat, b ≤ n + 1 ∧ gStdy (gGo nx g) g (gLeft code wave) = nI b ∧ (1 ≤ b → IR (gLeft code wave) (-2) 2) := by
    have hin : bI (pOut (gLeft code wave) (-2) 2) = 0 → IR (gLeft code wave) (-2) 2 := fun q => IR.of_out q (by decide) (by decide)
    by_cases cg : bI (gGo nx g) = 0
    · refine ⟨1, Nat.le_refl _, by omega, by unfold gKept; rw [if_pos cg]; rfl, ?_⟩
      unfold gStdy
      by_cases c : bI (pOut (gLeft code wave) (-2) 2) = 0
      · rw [if_pos c, if_pos cg]
        exact ⟨1, by omega, rfl, fun _ => hin c⟩
      · rw [if_neg c]
        exact ⟨0, by omega, rfl, fun q => absurd q (by omega)⟩
    · have g1 : g 0 = 1 := by
        rcases h0 with q | q
        · refine absurd ?_ cg
          unfold gGo
          rw [q]
          split <;> rfl
        · exact q
      obtain ⟨-, -, -, a, b, a1, a2, b1, ea, eb, -, -⟩ := h3 g1
      refine ⟨a + 1, by omega, by omega, by unfold gKept; rw [if_neg cg, ea, nI_1], ?_⟩
      unfold gStdy
      by_cases c : bI (pOut (gLeft code wave) (-2) 2) = 0
      · rw [if_pos c, if_neg cg]
        exact ⟨b + 1, by omega, by rw [eb, nI_1], fun _ => hin c⟩
      · rw [if_neg c]
        exact ⟨0, by omega, rfl, fun q => absurd q (by omega)⟩
  obtain ⟨a, a1, a2, ea, b, b1, eb, b3⟩ := hk
  have e1 : gTake g code wave nx 1 = gFix (nI a) (nI b) := by
    show gFix (gKept (gGo nx g) g) (gStdy (gGo nx g) g (gLeft code wave)) = _
    rw [ea, eb]
  refine ⟨⟨⟨Or.inr rfl, by rw [e1]; exact gFix_01 _ _, Or.inl rfl⟩, fun q => absurd q (show ¬ (1 : Int32) = 0 by decide), fun _ => ⟨hw, hl, rfl, a, b, a1, a2, b1, ea, eb, b3, fun q => ?_⟩, fun _ => rfl, (show Bd 0 5394 from Bd0 _)⟩, rfl, rfl, fun _ => rfl⟩
  rw [e1] at q
  exact gFix_1 (by omega) (by omega) q
/-- a sight as it was measured -/
theorem o1_sg (h : JW e n ns nt nr M) (hn : n < 60) (hi : i < nr) {j : Nat} (hj : j < ns) : JG (n + 1) (oM1 M ns i (60 + 8 * i + j)) ∧ oM1 M ns i (60 + 8 * i + j) 2 = 0 ∧ oM1 M ns i (60 + 8 * i + j) 0 = bI (pSee (M (30 + i)) (M (10 + j)) 0) ∧ (oM1 M ns i (60 + 8 * i + j) 0 = 1 → Bd (pMeas (oM1 M ns i (60 + 8 * i + j))) 1369) := by
  have hL := h.1.1.1
  have hJS := h.2.2.1 j hj
  obtain ⟨hR, hT, hG⟩ := h.2.2.2.2 i hi
  have e1 : oM1 M ns i (60 + 8 * i + j) = fMs M i j (M (60 + 8 * i + j)) := by
    unfold oM1 pMs
    exact pSgs_in hj
  rw [e1]
  unfold fMs
  by_cases c : bI (pSee (M (30 + i)) (M (10 + j)) 0) = 0
  · rw [if_pos c, c]
    refine ⟨JG.lose.1, rfl, rfl, fun q => absurd q (show ¬ (0 : Int32) = 1 by decide)⟩
  · rw [if_neg c]
    have hc : Bd (pCode (M 0 0) (M (30 + i)) (M (10 + j)) j) 1360 := f_code hJS hR
    have hw : IR (pFMod (pTrue (M (30 + i)) (M (10 + j))) 10) 0 9 := pFMod_IR (c := 10) (by decide)
    obtain ⟨t1, t2, t3, t4⟩ := (hG j (by omega)).take (nx := bI (pObsIn (M (50 + i)) (M 0 0 - 1))) hn hc hw
    refine ⟨t1, t2, t3.trans (by rw [bI_t c]; rfl), fun _ => ?_⟩
    unfold pMeas
    by_cases c1 : gTake (M (60 + 8 * i + j)) (pCode (M 0 0) (M (30 + i)) (M (10 + j)) j) (pFMod (pTrue (M (30 + i)) (M (10 + j))) 10) (bI (pObsIn (M (50 + i)) (M 0 0 - 1))) 1 = 0
    · rw [if_pos c1, t4 c1]
      exact hc.mono (by decide)
    · rw [if_neg c1]
      obtain ⟨l1, l2⟩ := left_IR hc hw
      -- wave + 10 * count is code less what is left
      have ee : (10 * gCnt (pCode (M 0 0) (M (30 + i)) (M (10 + j)) j) (pFMod (pTrue (M (30 + i)) (M (10 + j))) 10)).toInt = 10 * (gCnt (pCode (M 0 0) (M (30 + i)) (M (10 + j)) j) (pFMod (pTrue (M (30 + i)) (M (10 + j))) 10)).toInt := by
        have e10 : (10 : Int32).toInt = 10 := by decide
        unfold Bd at l2
        rw [i_mul (by rw [e10]; omega) (by rw [e10]; omega), e10]
      have b1 : Bd (pCode (M 0 0) (M (30 + i)) (M (10 + j)) j - pFMod (pTrue (M (30 + i)) (M (10 + j))) 10) 1369 := Bd.sub hc (hw.bd (K := 9) (by omega) (by omega)) (by decide)
      have e2 : (pCode (M 0 0) (M (30 + i)) (M (10 + j)) j - pFMod (pTrue (M (30 + i)) (M (10 + j))) 10).toInt = (pCode (M 0 0) (M (30 + i)) (M (10 + j)) j).toInt - (pFMod (pTrue (M (30 + i)) (M (10 + j))) 10).toInt := by
        obtain ⟨w1, w2⟩ := hw
        unfold Bd at hc
        exact i_sub (by omega) (by omega)
      show Bd (pFMod (pTrue (M (30 + i)) (M (10 + j))) 10 + 10 * gCnt (pCode (M 0 0) (M (30 + i)) (M (10 + j)) j) (pFMod (pTrue (M (30 + i)) (M (10 + j))) 10)) 1369
      obtain ⟨w1, w2⟩ := hw
      unfold gLeft IR at l1
      unfold Bd at hc l2 b1 ⊢
      rw [i_sub (by rw [ee]; omega) (by rw [ee]; omega), ee, e2] at l1
      rw [i_add (by rw [ee]; omega) (by rw [ee]; omega), ee]
      omega
theorem o1_meas (h : JW e n ns nt nr M) (hn : n < 60) (hi : i < nr) {j : Nat} (hj : j < ns) : cGM (oM1 M ns i) i j = (if bI (pSee (M (30 + i)) (M (10 + j)) 0) = 0 then false else if bI (pHolds (M (10 + j)) (M 0 0)) = 0 then false else true) := by
  obtain ⟨-, -, h0, -⟩ := o1_sg h hn hi hj
  have hL := h.1.1.1
  unfold cGM
  rw [h0, oM1_out (k := 10 + j) (by omega), oM1_out (k := 0) (by omega)]
/-- a correction stays small -/
theorem corr_Bd {i j : Nat} {M' : Nat → Nat → Int32} (h : JW e n ns nt nr M) (hi : i < nr) (hj : j < 8) (h6 : ∀ k, k < 60 → M' k = M k) (h7 : ∀ q, q < nr → q ≠ i → M' (60 + 8 * q + j) = M (60 + 8 * q + j)) : Bd (pCorr M' nr i j) 5394 := by
  obtain ⟨-, -, hq, -⟩ := (h.2.2.2.2 i hi).1
  have hL := h.1.1.2.2
  unfold pCorr
  rw [h6 (30 + i) (by omega)]
  rcases hq with hq | ⟨q, q1, q2, q3⟩
  · have c : ¬ bI (pOut (M (30 + i) 12) 0 (nI nr - 1)) = 0 := fun c => by
      obtain ⟨k, hk, ek⟩ := pOut_f (by omega) c
      rw [hq] at ek
      have h1 := congrArg Int32.toInt ek
      rw [tI_m1, nI_toInt (by omega)] at h1
      omega
    rw [if_neg c]
    exact Bd0 _
  · rw [q3, nI_clamp (by omega), h7 q q1 q2]
    split
    · split
      · exact Bd0 _
      · split
        · exact Bd0 _
        · exact ((h.2.2.2.2 q q1).2.2 j hj).2.2.2.2
    · exact Bd0 _
/-- a row that is laid stays small -/
theorem FB.put {F : Nat → Nat → Int32} {k : Nat} {r : Nat → Int32} {co fx : Int32} (h : FB F k) (hr : JS e n r) (he : e ≤ 2000) (hh : ¬ bI (pHolds r (nI e)) = 0) (hc : Bd co 6763) : FB (pPutS F k r (nI e) co fx) (k + 1) := by
  intro q hq
  by_cases c : q = k
  · subst c
    have hc2 := f_clock hr he hh
    refine ⟨⟨?_, ?_⟩, ?_, ?_⟩
    · show Bd (upd (F 0) q (pTX r (nI e)) q) 200
      rw [upd_at]
      exact (f_told hr (nI e)).1
    · show Bd (upd (F 1) q (pTY r (nI e)) q) 200
      rw [upd_at]
      exact (f_told hr (nI e)).2
    · show Bd (upd (F 2) q (co - pTC r (nI e)) q) 7879
      rw [upd_at]
      exact (Bd.sub hc hc2 (by decide)).mono (by decide)
    · show upd (F 3) q (pUseW r (nI e) fx) q = 1 ∨ upd (F 3) q (pUseW r (nI e) fx) q = 2 ∨ upd (F 3) q (pUseW r (nI e) fx) q = 4
      rw [upd_at]
      unfold pUseW
      split
      · split
        · exact Or.inl rfl
        · exact Or.inr (Or.inl rfl)
      · exact Or.inr (Or.inr rfl)
  · have hh := h q (by omega)
    show (Bd (upd (F 0) k _ q) 200 ∧ Bd (upd (F 1) k _ q) 200) ∧ Bd (upd (F 2) k _ q) 7879 ∧ (upd (F 3) k _ q = 1 ∨ upd (F 3) k _ q = 2 ∨ upd (F 3) k _ q = 4)
    rw [upd_o c, upd_o c, upd_o c, upd_o c]
    exact hh
theorem FE.put {F F' : Nat → Nat → Int32} {k : Nat} {r : Nat → Int32} {ep co fx : Int32} (h : FE F F' k) : FE (pPutS F k r ep co fx) (pPutS F' k r ep co fx) (k + 1) := by
  intro q hq a ha
  rcases (show a = 0 ∨ a = 1 ∨ a = 2 ∨ a = 3 by omega) with rfl | rfl | rfl | rfl
  all_goals
    show upd (F _) k _ q = upd (F' _) k _ q
    by_cases c : q = k
    · rw [c, upd_at, upd_at]
    · rw [upd_o c, upd_o c]
      exact h q (by omega) _ (by decide)
/-- what is laid of what was measured -/
theorem lay_FB (h : JW e n ns nt nr M) (hn : n < 60) (hi : i < nr) (F : Nat → Nat → Int32) : ∀ j, j ≤ ns → FB (pGMl (oM1 M ns i) nr i F j).2 (pGMl (oM1 M ns i) nr i F j).1
  | 0, _ => by
    rw [pGMl_0]
    intro k hk
    exact absurd hk (Nat.not_lt_zero k)
  | j + 1, hj => by
    have ih := lay_FB h hn hi F j (by omega)
    have hL := h.1.1.1
    have he := h.1.2.1
    rw [pGMl_s]
    by_cases c : bI (cGM (oM1 M ns i) i j) = 0
    · rw [if_pos c]
      exact ih
    · rw [if_neg c]
      obtain ⟨s1, s2, s3, s4⟩ := o1_sg h hn hi (j := j) (by omega)
      have c2 := bI_t c
      rw [o1_meas h hn hi (by omega)] at c2
      by_cases d1 : bI (pSee (M (30 + i)) (M (10 + j)) 0) = 0
      · rw [if_pos d1] at c2; cases c2
      · rw [if_neg d1] at c2
        by_cases d2 : bI (pHolds (M (10 + j)) (M 0 0)) = 0
        · rw [if_pos d2] at c2; cases c2
        · rw [h.2.1] at d2
          have hm := s4 (s3.trans (by rw [bI_t d1]; rfl))
          have hco := corr_Bd (M' := oM1 M ns i) (j := j) h hi (by omega) (fun k hk => oM1_out (by omega)) (fun q h1 h2 => oM1_out (by omega))
          rw [oM1_out (k := 10 + j) (by omega), oM1_out (k := 0) (by omega), h.2.1]
          exact ih.put (h.2.2.1 j (by omega)) he d2 (Bd.sub hm hco (by decide))
theorem lay_FE (M : Nat → Nat → Int32) (nr i : Nat) (lo : Int32) (F F' : Nat → Nat → Int32) : ∀ j, (pGS M nr i lo F j).1 = (pGS M nr i lo F' j).1 ∧ FE (pGS M nr i lo F j).2 (pGS M nr i lo F' j).2 (pGS M nr i lo F j).1
  | 0 => by
    rw [pGS_0, pGS_0]
    exact ⟨rfl, fun k hk => absurd hk (Nat.not_lt_zero k)⟩
  | j + 1 => by
    have ih := lay_FE M nr i lo F F' j
    rw [pGS_s, pGS_s]
    split
    · exact ih
    · split
      · exact ih
      · split
        · exact ih
        · refine ⟨by show _ + 1 = _ + 1; rw [ih.1], ?_⟩
          show FE (pPutS _ _ _ _ _ _) (pPutS _ _ _ _ _ _) (_ + 1)
          rw [← ih.1]
          exact ih.2.put
theorem sup_FB (h : JW e n ns nt nr M) (hi : i < nr) (lo : Int32) (F : Nat → Nat → Int32) : ∀ j, j ≤ ns → FB (pGS M nr i lo F j).2 (pGS M nr i lo F j).1
  | 0, _ => by
    rw [pGS_0]
    intro k hk
    exact absurd hk (Nat.not_lt_zero k)
  | j + 1, hj => by
    have ih := sup_FB h hi lo F j (by omega)
    have hL := h.1.1.1
    rw [pGS_s]
    split
    · exact ih
    · split
      · exact ih
      · split
        · exact ih
        · rename_i _ _ d2
          rw [h.2.1] at d2 ⊢
          have hc : Bd (pCode (nI e) (M (30 + i)) (M (10 + j)) j) 1360 := f_code (h.2.2.1 j (by omega)) (h.2.2.2.2 i hi).1
          exact ih.put (h.2.2.1 j (by omega)) h.1.2.1 d2 ((Bd.sub hc (corr_Bd h hi (by omega) (fun _ _ => rfl) (fun _ _ _ => rfl)) (by decide)).mono (by decide))
end OB1
