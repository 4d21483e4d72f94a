-- what an asking leaves out; the mean; the sums
section AK1
variable {e n ns nt nr i : Nat} {M : Nat → Nat → Int32}
theorem zS_10 {F : Nat → Nat → Int32} {z : Nat → Int32} {c : Nat} {B : Bst} (hc : c < 2 ^ 31) (h4 : 4 ≤ nI c) : zSolve F z c B 10 = 3 + (pFar F c (pR1 F c B).1 (pR1 F c B).2.1 (pR1 F c B) c).1 ∧ ∀ lc, lSolve F z lc c B = (pR1 F c B).2.2.2 := by
  have c4 := (nI_leI (a := 4) (b := c) (by decide) hc).mp h4
  have hk : ¬ bI (pHas (upd z 5 (nI c))) = 0 := by
    unfold pHas
    rw [upd_at, if_neg (fun q => by
      have := (nI_ltI (a := c) (b := 3) hc (by decide)).mp q
      omega)]
    decide
  refine ⟨?_, fun lc => ?_⟩
  · unfold zSolve
    rw [if_neg hk, if_pos h4]
    rfl
  · unfold lSolve
    rw [if_neg hk]
/-- what would alarm doesn't depend on what the solver held -/
theorem sAl_b (h : JW e n ns nt nr M) (hi : i < nr) (V V2 : SX) : pSAl M ns nr i V = pSAl M ns nr i V2 := by
  have h8 := h.1.1.1
  have hF := sup_FB h hi (-1) V.2.2.2 ns (Nat.le_refl _)
  obtain ⟨eC, hE⟩ := lay_FE M nr i (-1) V.2.2.2 V2.2.2.2 ns
  have hl := pGS_le M nr i (-1) V.2.2.2 ns
  unfold pSAl pAlarm
  rw [zS_5, zS_5, ← eC]
  by_cases c4 : 4 ≤ nI (pGS M nr i (-1) V.2.2.2 ns).1
  · rw [if_pos c4, if_pos c4]
    obtain ⟨a1, a2⟩ := zS_10 (F := (pGS M nr i (-1) V.2.2.2 ns).2) (z := V.1) (B := vB V) (show (pGS M nr i (-1) V.2.2.2 ns).1 < 2 ^ 31 by omega) c4
    obtain ⟨b1, b2⟩ := zS_10 (F := (pGS M nr i (-1) V2.2.2.2 ns).2) (z := V2.1) (B := vB V2) (show (pGS M nr i (-1) V.2.2.2 ns).1 < 2 ^ 31 by omega) c4
    have e1 : pR1 (pGS M nr i (-1) V2.2.2.2 ns).2 (pGS M nr i (-1) V.2.2.2 ns).1 (vB V2) = pR1 (pGS M nr i (-1) V.2.2.2 ns).2 (pGS M nr i (-1) V.2.2.2 ns).1 (vB V) := by
      unfold pR1
      rw [← hE.find]
      exact pFind_b _ _
    rw [if_pos (rfl : (0 : Int32) = 0), if_pos (rfl : (0 : Int32) = 0), a1, b1, a2, b2, e1, ← pFar_b hF (by omega) hE (pR1 (pGS M nr i (-1) V.2.2.2 ns).2 (pGS M nr i (-1) V.2.2.2 ns).1 (vB V)) (pR1 (pGS M nr i (-1) V.2.2.2 ns).2 (pGS M nr i (-1) V.2.2.2 ns).1 (vB V))]
  · rw [if_neg c4, if_neg c4]
theorem dig_b (h : JW e n ns nt nr M) (V V2 : SX) : pDig M ns nt nr V = pDig M ns nt nr V2 := by
  have h3 := h.1.1.2.2
  unfold pDig
  by_cases c : nI nr ≤ 0
  · rw [if_pos c, if_pos c]
  · have h0 : 0 < nr := by
      rcases Nat.eq_zero_or_pos nr with q | q
      · exact absurd (by rw [q, nI_0]; decide) c
      · exact q
    rw [if_neg c, if_neg c, sAl_b h h0 V V2]
/-- the mean of errors -/
theorem mean_f {t : Nat → Int32} (h : JT e n t) (hn : n ≤ 60) : ¬ Op.cmpValue (FP.dcmp (pMean t) FP.dconst0) CmpOp.g < 0 ∧ Op.cmpValue (FP.dcmp (pMean t) 4627448617123184640) CmpOp.l ≤ 0 := by
  obtain ⟨-, -, ⟨a, q, ha, hq, e3, e4⟩, -⟩ := h
  have key : ¬ FP.dcmp (pMean t) FP.dconst0 = some .lt ∧ ¬ FP.dcmp (pMean t) 4627448617123184640 = some .gt := by
    unfold pMean
    by_cases c : t 3 = 0
    · rw [if_pos c]
      decide +kernel
    · rw [if_neg c, e3, e4]
      have a0 : 0 < a := by
        rcases Nat.eq_zero_or_pos a with z | z
        · exact absurd (by rw [e3, z, nI_0]) c
        · exact z
      have hm := ddiv_le24 (x := nI q) (y := nI a) (by rw [nI_toInt (by omega)]; omega) (by rw [nI_toInt (by omega)]; omega) (by rw [nI_toInt (by omega), nI_toInt (by omega)]; omega)
      exact ⟨fun z => hm.1 z, fun z => hm.2 z⟩
  obtain ⟨k1, k2⟩ := key
  constructor
  · cases hc : FP.dcmp (pMean t) FP.dconst0 with
    | none => decide
    | some o => cases o with
      | lt => exact absurd hc k1
      | eq => decide
      | gt => decide
  · cases hc : FP.dcmp (pMean t) 4627448617123184640 with
    | none => decide
    | some o => cases o with
      | lt => decide
      | eq => decide
      | gt => exact absurd hc k2
-- sums over stars and receivers
theorem sum_of {M M' : Nat → Nat → Int32} : ∀ k, (∀ j, j < k → M' (10 + j) 6 = M (10 + j) 6) → pSumS M' 6 k = pSumS M 6 k
  | 0, _ => by rw [pSumS, pSumS]
  | k + 1, h => by
    rw [pSumS_s, pSumS_s, sum_of k (fun j hj => h j (by omega)), if_neg (by decide), if_neg (by decide), if_neg (by decide), if_neg (by decide), h k (by omega)]
theorem sum_one {M M' : Nat → Nat → Int32} {j : Nat} (h1 : M' (10 + j) 6 = M (10 + j) 6 + 1) : ∀ k, (∀ q, q < k → q ≠ j → M' (10 + q) 6 = M (10 + q) 6) → j < k → pSumS M' 6 k = pSumS M 6 k + 1
  | 0, _, hj => absurd hj (Nat.not_lt_zero j)
  | k + 1, h, hj => by
    rw [pSumS_s, pSumS_s, if_neg (by decide), if_neg (by decide), if_neg (by decide), if_neg (by decide)]
    by_cases c : k = j
    · subst c
      rw [h1, sum_of k (fun q hq => h q (by omega) (by omega)), Int32.add_assoc]
    · rw [h k (by omega) c, sum_one h1 k (fun q hq => h q (by omega)) (by omega), Int32.add_assoc, Int32.add_comm 1, ← Int32.add_assoc]
theorem sum_lt (h : JW e n ns nt nr M) : ∀ k, k ≤ ns → IR (pSumS M 6 k) 0 (60 * k)
  | 0, _ => by
    rw [pSumS]
    exact IR.lit (by decide)
  | k + 1, hk => by
    have h8 := h.1.1.1
    have h60 := h.1.2.2
    have ih := sum_lt h k (by omega)
    obtain ⟨-, ⟨q, hq, eq⟩, -⟩ := h.2.2.1 k (by omega)
    rw [pSumS_s, if_neg (by decide), if_neg (by decide), eq]
    exact ih.add (IR.of_nI (k := q) (a := 0) (b := 60) (by omega) (by omega) (by omega)) (by omega) (by omega) (by omega) (by omega)
theorem obs_of {M M' : Nat → Nat → Int32} : ∀ k, (∀ j, j < k → M' (50 + j) 0 = M (50 + j) 0) → pSumR M' 7 k = pSumR M 7 k
  | 0, _ => by rw [pSumR, pSumR]
  | k + 1, h => by rw [pSumR_s, pSumR_s, if_pos rfl, if_pos rfl, obs_of k (fun j hj => h j (by omega)), h k (by omega)]
theorem obs_one {M M' : Nat → Nat → Int32} {j : Nat} (h1 : M' (50 + j) 0 = M (50 + j) 0 + 1) : ∀ k, (∀ q, q < k → q ≠ j → M' (50 + q) 0 = M (50 + q) 0) → j < k → pSumR M' 7 k = pSumR M 7 k + 1
  | 0, _, hj => absurd hj (Nat.not_lt_zero j)
  | k + 1, h, hj => by
    rw [pSumR_s, pSumR_s, if_pos rfl, if_pos rfl]
    by_cases c : k = j
    · subst c
      rw [h1, obs_of k (fun q hq => h q (by omega) (by omega)), Int32.add_assoc]
    · rw [h k (by omega) c, obs_one h1 k (fun q hq => h q (by omega)) (by omega), Int32.add_assoc, Int32.add_comm 1, ← Int32.add_assoc]
end AK1
