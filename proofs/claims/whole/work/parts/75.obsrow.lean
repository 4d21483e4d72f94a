-- what is observed: rows used, their sum and what they offer
section OB3
variable {e n ns nt nr i j : Nat} {M N : Nat → Nat → Int32} {g h v w t : Nat → Int32}
theorem i_back (a c u : Int32) : a - c - u + c = a - u := by
  rw [i_sw, Int32.sub_add_cancel]
/-- how much too far, by the measured range -/
def tfJ (M : Nat → Nat → Int32) (i j : Nat) : Int32 := pTooFar (M (30 + i)) (M (10 + j)) (M 0 0) (pMeas (fMs M i j (M (60 + 8 * i + j))))
theorem eUseRow (h : Rel e n ns nt nr M N) (hn : n < 512) (hi : i < nr) (hj : j < ns) :
    (bI (cGM (pMs M i ns) i j) = 0 → (mObsL N ns i).1 9 j = 0 ∧ mObsU N ns i (60 + 8 * i + j) = mSee N i j (mNx (N (40 + i)) (N 0 1)) ∧ pGM (pMs M i ns) nr i ns (60 + 8 * i + j) = fMs M i j (M (60 + 8 * i + j))) ∧
    (¬ bI (cGM (pMs M i ns) i j) = 0 → ¬ (mObsL N ns i).1 9 j = 0 ∧ mObsU N ns i (60 + 8 * i + j) = upd (upd (upd (mSee N i j (mNx (N (40 + i)) (N 0 1))) 6 1) 7 (pCorr M nr i j)) 10 (tfJ M i j) ∧ pGM (pMs M i ns) nr i ns (60 + 8 * i + j) = upd (upd (fMs M i j (M (60 + 8 * i + j))) 2 1) 9 (pCorr M nr i j) ∧ Bd (tfJ M i j) 329908) := by
  have h8 := h.1.1.1
  have h3 := h.1.1.2.2
  have he := h.1.2.1
  have hs := h.2.2.1 j hj
  have hr := h.2.2.2.2.2.1 i hi
  have hc := eCond h hn hi hj
  have hat := mLay_at (mObsP N ns i) ns i 1 (-1) (j := j) ns hj
  have hlo : ∀ k, k < 6 ∨ 10 ≤ k → (mObsL N ns i).1 k = mObsP N ns i k := fun k hk => mLay_lo _ _ _ _ _ hk ns
  have o6 : mObsP N ns i (60 + 8 * i + j) = mSee N i j (mNx (N (40 + i)) (N 0 1)) := mSeeN_at N i _ ns hj (by omega) (by omega)
  have q6 : pMs M i ns (60 + 8 * i + j) = fMs M i j (M (60 + 8 * i + j)) := pSgs_in _ _ _ _ hj
  have eu : mObsU N ns i (60 + 8 * i + j) = if (mObsL N ns i).1 9 j = 0 then (mObsL N ns i).1 (60 + 8 * i + j) else mUseRow (mObsL N ns i).1 ns i j := mUseN_at _ _ _ ns hj
  have eg : pGM (pMs M i ns) nr i ns (60 + 8 * i + j) = fGM (pMs M i ns) nr i j (pMs M i ns (60 + 8 * i + j)) := pSgs_in _ _ _ _ hj
  refine ⟨fun c => ?_, fun c => ?_⟩
  · have z9 : (mObsL N ns i).1 9 j = 0 := hat.1 (hc.mpr c)
    refine ⟨z9, ?_, ?_⟩
    · rw [eu, if_pos z9, hlo _ (Or.inr (by omega)), o6]
    · rw [eg, q6]
      unfold fGM
      rw [if_pos c]
  · obtain ⟨a8, a6, a7, a9⟩ := hat.2 (fun q => c (hc.mp q))
    have a9' : ¬ (mObsL N ns i).1 9 j = 0 := a9
    have a8' : (mObsL N ns i).1 8 j = mLayP (mObsP N ns i) ns i 1 j := a8
    have a6' : (mObsL N ns i).1 6 j = mLayX (mObsP N ns i) j := a6
    have a7' : (mObsL N ns i).1 7 j = mLayY (mObsP N ns i) j := a7
    obtain ⟨k1, k2, k3⟩ := (eObsLay h hn hi (fun _ _ => 0)).2.2.2 j hj c
    have hcor : mCorr (mObsL N ns i).1 ns i j = pCorr M nr i j := by
      rw [mCorr_of (N := mObsP N ns i) (hlo 0 (Or.inl (by decide))) (fun k hk => hlo k (Or.inr hk)), (eCorrP h hi (by omega)).1]
    refine ⟨a9, ?_, ?_, ?_⟩
    · rw [eu, if_neg a9']
      unfold mUseRow
      rw [hcor, a8', a6', a7', k1, k2, k3, hlo (60 + 8 * i + j) (Or.inr (by omega)), hlo (40 + i) (Or.inr (by omega)), o6, mObsP_out N ns i (k := 40 + i) (by omega), hr.1.1.1, hr.1.1.2.1, i_back]
      rfl
    · rw [eg, q6]
      unfold fGM
      rw [if_neg c, (eCorrP h hi (by omega)).2]
    · obtain ⟨u1, u2⟩ := cGM_in c
      rw [q6] at u1
      have b1 := ((eSigh h hn hi hj).2.2.2 u1).2
      unfold pMs at u2
      rw [pSgs_lo _ _ _ _ (show 10 + j < 60 by omega), pSgs_lo _ _ _ _ (show 0 < 60 by omega)] at u2
      have b2 : Bd (pTC (M (10 + j)) (M 0 0)) 1116 := by
        rw [h.2.1.1] at u2 ⊢
        exact bTC hs.2 (by omega) u2
      unfold tfJ pTooFar
      exact (Bd.sub (Bd.sub b1 b2 (by decide)) (Bd.range hr.2.1.2.2.2.2.1 hr.2.1.2.2.2.2.2.1 (bTX hs.2.2.2.2.1 _) (bTY hs.2.2.2.2.1 _) (by decide)) (by decide)).mono (by decide)
theorem pGM_lo (M : Nat → Nat → Int32) {k : Nat} (hk : k < 60) : pGM (pMs M i ns) nr i ns k = M k := by
  unfold pGM pMs
  rw [pSgs_lo _ _ _ _ hk, pSgs_lo _ _ _ _ hk]
theorem pMeas_use {c : Int32} : pMeas (upd (upd g 2 1) 9 c) = pMeas g := rfl
theorem eOfS (h : Rel e n ns nt nr M N) (hn : n < 512) (hi : i < nr) : ∀ m, m ≤ ns → (pOfS (pGM (pMs M i ns) nr i ns) i m).1 = mSumR (mObsU N ns i) i m ∧ (pOfS (pGM (pMs M i ns) nr i ns) i m).2 = wC (mObsL N ns i).1 m ∧ Bd (mSumR (mObsU N ns i) i m) (m * 329908)
  | 0, _ => by
    rw [pOfS_0, mSumR_0, wC]
    exact ⟨rfl, rfl, Bd0 _⟩
  | m + 1, hm => by
    have h8 := h.1.1.1
    have h3 := h.1.1.2.2
    obtain ⟨i1, i2, i3⟩ := eOfS h hn hi m (by omega)
    obtain ⟨r1, r2⟩ := eUseRow h hn hi (show m < ns by omega)
    have s1 := (eSigh h hn hi (show m < ns by omega)).1
    have s2 := (eSigh h hn hi (show m < ns by omega)).2.1
    rw [pOfS_s, mSumR_s, wC_s, pGM_lo M (show 30 + i < 60 by omega), pGM_lo M (show 10 + m < 60 by omega), pGM_lo M (show 0 < 60 by omega)]
    by_cases c : bI (cGM (pMs M i ns) i m) = 0
    · obtain ⟨z1, z2, z3⟩ := r1 c
      have z6 : ¬ mSee N i m (mNx (N (40 + i)) (N 0 1)) 6 = 1 := by
        rw [s1.1.2.2.1, s2]
        decide
      rw [z3, if_pos s2, if_pos z1, z2, if_neg z6, Int32.add_zero, Nat.add_zero]
      exact ⟨i1, i2, i3.mono (by omega)⟩
    · obtain ⟨z1, z2, z3, z4⟩ := r2 c
      rw [z3, if_neg (show ¬ upd (upd (fMs M i m (M (60 + 8 * i + m))) 2 1) 9 (pCorr M nr i m) 2 = 0 from (show ¬ (1 : Int32) = 0 by decide)), pMeas_use, if_neg z1, z2, if_pos (show upd (upd (upd (mSee N i m (mNx (N (40 + i)) (N 0 1))) 6 1) 7 (pCorr M nr i m)) 10 (tfJ M i m) 6 = 1 from rfl)]
      refine ⟨?_, ?_, (Bd.add i3 z4 (by omega)).mono (by omega)⟩
      · show (pOfS (pGM (pMs M i ns) nr i ns) i m).1 + tfJ M i m = mSumR (mObsU N ns i) i m + tfJ M i m
        rw [i1]
      · show (pOfS (pGM (pMs M i ns) nr i ns) i m).2 + 1 = wC (mObsL N ns i).1 m + 1
        rw [i2]
theorem eObsRow (h : Rel e n ns nt nr M N) (hn : n < 512) (hi : i < nr) (hj : j < ns) :
    RSg (n + 1) (obM M ns nr i (60 + 8 * i + j)) (mObsU N ns i (60 + 8 * i + j)) ∧ (¬ obM M ns nr i (60 + 8 * i + j) 2 = 0 → obM M ns nr i (60 + 8 * i + j) 10 = mObsU N ns i (60 + 8 * i + j) 10 - pFDiv (mSumR (mObsU N ns i) i ns) (nI (wC (mObsL N ns i).1 ns)) ∧ ¬ nI (wC (mObsL N ns i).1 ns) = 0) := by
  have h8 := h.1.1.1
  have h3 := h.1.1.2.2
  obtain ⟨e1, e2, e3⟩ := eOfS h hn hi ns (Nat.le_refl _)
  obtain ⟨r1, r2⟩ := eUseRow h hn hi hj
  obtain ⟨s1, s2, s3, -⟩ := eSigh h hn hi hj
  unfold obM pOf
  rw [e1, e2]
  by_cases c : bI (cGM (pMs M i ns) i j) = 0
  · obtain ⟨z1, z2, z3⟩ := r1 c
    have f1 : fOf (pGM (pMs M i ns) nr i ns) i j (fMs M i j (M (60 + 8 * i + j))) = fMs M i j (M (60 + 8 * i + j)) := by
      unfold fOf
      rw [if_pos s2]
    have f2 : ∀ mm, fOf2 mm j (fMs M i j (M (60 + 8 * i + j))) = fMs M i j (M (60 + 8 * i + j)) := fun mm => by
      unfold fOf2
      rw [if_pos s2]
    have e9 : (if nI (wC (mObsL N ns i).1 ns) = 0 then pSgs (pGM (pMs M i ns) nr i ns) i ns (fOf (pGM (pMs M i ns) nr i ns) i) else pSgs (pSgs (pGM (pMs M i ns) nr i ns) i ns (fOf (pGM (pMs M i ns) nr i ns) i)) i ns (fOf2 (pFDiv (mSumR (mObsU N ns i) i ns) (nI (wC (mObsL N ns i).1 ns))))) (60 + 8 * i + j) = fMs M i j (M (60 + 8 * i + j)) := by
      split
      · rw [pSgs_in _ _ _ _ hj, z3, f1]
      · rw [pSgs_in _ _ _ _ hj, pSgs_in _ _ _ _ hj, z3, f1, f2]
    rw [e9, z2]
    exact ⟨s1, fun q => absurd s2 q⟩
  · obtain ⟨z1, z2, z3, z4⟩ := r2 c
    have hw : 1 ≤ wC (mObsL N ns i).1 ns := by
      have := wC_used hj z1
      omega
    have hw8 : wC (mObsL N ns i).1 ns ≤ 8 := Nat.le_trans (wC_le _ _) h8
    have hw0 : ¬ nI (wC (mObsL N ns i).1 ns) = 0 := nI_ne0 hw (by omega)
    have f1 : fOf (pGM (pMs M i ns) nr i ns) i j (upd (upd (fMs M i j (M (60 + 8 * i + j))) 2 1) 9 (pCorr M nr i j)) = upd (upd (upd (fMs M i j (M (60 + 8 * i + j))) 2 1) 9 (pCorr M nr i j)) 10 (tfJ M i j) := by
      unfold fOf
      rw [if_neg (show ¬ upd (upd (fMs M i j (M (60 + 8 * i + j))) 2 1) 9 (pCorr M nr i j) 2 = 0 from (show ¬ (1 : Int32) = 0 by decide)), pMeas_use, pGM_lo M (show 30 + i < 60 by omega), pGM_lo M (show 10 + j < 60 by omega), pGM_lo M (show 0 < 60 by omega)]
      rfl
    have f2 : ∀ mm, fOf2 mm j (upd (upd (upd (fMs M i j (M (60 + 8 * i + j))) 2 1) 9 (pCorr M nr i j)) 10 (tfJ M i j)) = upd (upd (upd (upd (fMs M i j (M (60 + 8 * i + j))) 2 1) 9 (pCorr M nr i j)) 10 (tfJ M i j)) 10 (tfJ M i j - mm) := fun mm => by
      unfold fOf2
      rw [if_neg (show ¬ upd (upd (upd (fMs M i j (M (60 + 8 * i + j))) 2 1) 9 (pCorr M nr i j)) 10 (tfJ M i j) 2 = 0 from (show ¬ (1 : Int32) = 0 by decide))]
      rfl
    rw [if_neg hw0, pSgs_in _ _ _ _ hj, pSgs_in _ _ _ _ hj, z3, f1, f2, z2]
    have g0 : fMs M i j (M (60 + 8 * i + j)) 0 = 1 := by
      obtain ⟨u1, -⟩ := cGM_in c
      have q6 : pMs M i ns (60 + 8 * i + j) = fMs M i j (M (60 + 8 * i + j)) := pSgs_in _ _ _ _ hj
      rw [q6] at u1
      rcases s1.2.1 with q | q
      · exact absurd q u1
      · exact q
    refine ⟨RSg_use s1 g0 ?_, fun _ => ⟨rfl, hw0⟩⟩
    have bm : Bd (pFDiv (mSumR (mObsU N ns i) i ns) (nI (wC (mObsL N ns i).1 ns))) 2639265 := (Bd.fdiv (K := 2639264) (e3.mono (by omega)) (fun q => nI_m1 (by omega) q) (by decide)).mono (by decide)
    exact (Bd.sub z4 bm (by decide)).mono (by decide)
theorem eObsRest (h : Rel e n ns nt nr M N) (hi : i < nr) (h1 : ns ≤ j) (hj : j < 8) : obM M ns nr i (60 + 8 * i + j) = M (60 + 8 * i + j) ∧ mObsU N ns i (60 + 8 * i + j) = N (60 + 8 * i + j) := by
  refine ⟨obM_out M ns nr i (by omega), ?_⟩
  unfold mObsU
  rw [mUseN_o _ _ _ ns (by omega)]
  show (mLay (mObsP N ns i) ns i 1 (-1) ns).1 (60 + 8 * i + j) = N (60 + 8 * i + j)
  rw [mLay_lo _ _ _ _ _ (Or.inr (by omega)) ns, mObsP_out N ns i (by omega)]
theorem mObsU_out (N : Nat → Nat → Int32) (ns i : Nat) {k : Nat} (hk : k < 6 ∨ 10 ≤ k) (h : k < 60 + 8 * i ∨ 60 + 8 * i + ns ≤ k) : mObsU N ns i k = N k := by
  unfold mObsU
  rw [mUseN_o _ _ _ ns h]
  show (mLay (mObsP N ns i) ns i 1 (-1) ns).1 k = N k
  rw [mLay_lo _ _ _ _ _ hk ns, mObsP_out N ns i h]
end OB3
