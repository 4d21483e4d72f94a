-- what would be: the alarm, the place without a star, the checksum
section SU1
variable {e n ns nt nr i : Nat} {M N : Nat → Nat → Int32}
theorem i_sw (a t c : Int32) : a - t - c = a - c - t := by
  rw [Int32.sub_sub, Int32.sub_sub, Int32.add_comm]
def uS (M : Nat → Nat → Int32) (i : Nat) (lo : Int32) (j : Nat) : Bool := if nI j = lo then false else if bI (pSee (M (30 + i)) (M (10 + j)) 0) = 0 then false else if bI (pHolds (M (10 + j)) (M 0 0)) = 0 then false else true
theorem pGS_lays (lo : Int32) (F : Nat → Nat → Int32) : Lays (pGS M nr i lo F) (uS M i lo) (fun j => M (10 + j)) (M 0 0) (fun j => pCode (M 0 0) (M (30 + i)) (M (10 + j)) j - pCorr M nr i j) (fun _ => 0) ns := by
  refine ⟨congrArg Prod.fst (pGS_0 M nr i lo F), fun j _ => ?_⟩
  rw [pGS_s]
  unfold uS
  by_cases c1 : nI j = lo
  · rw [if_pos c1, if_pos c1, if_pos (show bI false = 0 from rfl)]
  · rw [if_neg c1, if_neg c1]
    by_cases c2 : bI (pSee (M (30 + i)) (M (10 + j)) 0) = 0
    · rw [if_pos c2, if_pos c2, if_pos (show bI false = 0 from rfl)]
    · rw [if_neg c2, if_neg c2]
      by_cases c3 : bI (pHolds (M (10 + j)) (M 0 0)) = 0
      · rw [if_pos c3, if_pos c3, if_pos (show bI false = 0 from rfl)]
      · rw [if_neg c3, if_neg c3, if_neg (show ¬ bI true = 0 by decide)]
theorem eGS (h : Rel e n ns nt nr M N) (hi : i < nr) (lo : Int32) (F : Nat → Nat → Int32) : (pGS M nr i lo F ns).1 = wC (mLay N ns i 0 lo ns).1 ns ∧ Cmp (pGS M nr i lo F ns).2 (mLay N ns i 0 lo ns).1 ns ∧ BQ (mLay N ns i 0 lo ns).1 ns := by
  have h1 := h.1.1.1
  have he := h.1.2.1
  have hn := h.1.2.2
  have hr := h.2.2.2.2.2.1 i hi
  refine eLay (pGS_lays lo F) (fun j hj => ?_) (fun j hj hu => ?_) ns (Nat.le_refl _)
  · have hs := h.2.2.1 j hj
    have e9 : cLay N i lo j = uS M i lo j := by
      unfold cLay uS
      rw [h.2.1.2.1, h.2.1.1, eHolds hs.1 hs.2 (by omega), eSees hs.1 hs.2.1 hr.1]
      by_cases c1 : nI j = lo
      · rw [if_pos c1, if_pos c1]
      · rw [if_neg c1, if_neg c1]
        by_cases c2 : bI (pSee (M (30 + i)) (M (10 + j)) 0) = 0 <;> by_cases c3 : bI (pHolds (M (10 + j)) (nI e)) = 0
        · rw [if_pos c3, if_pos c2]
        · rw [if_neg c3, if_pos c2, if_pos c2]
        · rw [if_pos c3, if_neg c2, if_pos c3]
        · rw [if_neg c3, if_neg c2, if_neg c2, if_neg c3]
    rw [e9]
  · have hs := h.2.2.1 j hj
    have hho : ¬ bI (pHolds (M (10 + j)) (nI e)) = 0 := fun q => hu (by
      unfold uS
      rw [h.2.1.1]
      by_cases c1 : nI j = lo
      · rw [if_pos c1]; rfl
      · rw [if_neg c1]
        by_cases c2 : bI (pSee (M (30 + i)) (M (10 + j)) 0) = 0
        · rw [if_pos c2]; rfl
        · rw [if_neg c2, if_pos q]; rfl)
    obtain ⟨hc1, hc2⟩ := eCorr h hi (show j < 8 by omega)
    have ex : mLayX N j = pTX (M (10 + j)) (M 0 0) := by
      unfold mLayX
      rw [eTX hs.1, h.2.1.2.1, h.2.1.1]
    have ey : mLayY N j = pTY (M (10 + j)) (M 0 0) := by
      unfold mLayY
      rw [eTY hs.1, h.2.1.2.1, h.2.1.1]
    have ef : mFixd N i j 0 = false := rfl
    refine ⟨ex, ey, ?_, ?_, ?_, ?_, ?_⟩
    · unfold mLayP
      rw [ef, if_neg (by decide), hc1, eTO hs.1, eCode hs.1 hr.1 hr.2.1.2.1 hr.2.1.1, i_sw, h.2.1.2.1, h.2.1.1]
    · unfold mLayW pUseW
      rw [ef, if_neg (by decide), if_pos (rfl : (0 : Int32) = 0), ex, ey]
    · exact (bTX hs.2.2.2.2.1 _).mono (by decide)
    · exact (bTY hs.2.2.2.2.1 _).mono (by decide)
    · rw [h.2.1.1]
      exact (Bd.sub (Bd.sub (bCode hs.2 hr.2.1 _ _) hc2 (by decide)) (bTC hs.2 (by omega) hho) (by decide)).mono (by decide)
theorem c40 : ∀ c, c ≤ 8 → ((40 : Int32) * nI c).toInt64 = 40 * (nI c).toInt64 := by decide
theorem eSolve {F L : Nat → Nat → Int32} {c : Nat} (hc : Cmp F L ns) (hb : BQ L ns) (hw : WOK L ns) (h8 : ns ≤ 8) (ec : c = wC L ns) (z : Nat → Int32) (lc : Int64) (B Bm : Bst) :
    zSolve F z c B 5 = nI c ∧ (c < 3 → bI (pHas (zSolve F z c B)) = 0 ∧ zSolve F z c B 10 = 99) ∧ (3 ≤ c → ¬ bI (pHas (zSolve F z c B)) = 0 ∧ zSolve F z c B 6 = (mFind L ns Bm).1 ∧ zSolve F z c B 7 = (mFind L ns Bm).2.1 ∧ zSolve F z c B 8 = (mFind L ns Bm).2.2.1 ∧ lSolve F z lc c B = (mFind L ns Bm).2.2.2 ∧ zSolve F z c B 10 = mLevel L ns (mFind L ns Bm) (nI c)) := by
  have hle : c ≤ 8 := by rw [ec]; exact Nat.le_trans (wC_le L ns) h8
  have hh : bI (pHas (upd z 5 (nI c))) = 0 ↔ c < 3 := by
    unfold pHas
    show bI (if nI c < 3 then false else true) = 0 ↔ c < 3
    have h3 : nI c < 3 ↔ c < 3 := nI_ltI (b := 3) (by omega) (by decide)
    by_cases q : nI c < 3
    · rw [if_pos q]; exact ⟨fun _ => h3.mp q, fun _ => rfl⟩
    · rw [if_neg q]; exact ⟨fun w => absurd w (by decide), fun w => absurd (h3.mpr w) q⟩
  have h5 : zSolve F z c B 5 = nI c := by
    unfold zSolve
    split
    · rfl
    · split <;> rfl
  have hpz : bI (pHas (zSolve F z c B)) = 0 ↔ c < 3 := by
    have : pHas (zSolve F z c B) = pHas (upd z 5 (nI c)) := by
      unfold pHas
      rw [h5]
      rfl
    rw [this]
    exact hh
  refine ⟨h5, fun h3 => ⟨hpz.mpr h3, ?_⟩, fun h3 => ?_⟩
  · unfold zSolve
    rw [if_pos (hh.mpr h3)]
    rfl
  · have hnp : ¬ bI (pHas (upd z 5 (nI c))) = 0 := fun q => by have := hh.mp q; omega
    have hE : pR1 F c B = mFind L ns Bm := by
      unfold pR1
      rw [ec]
      exact eFind hc (Lo_all h8) (mAw_ne hw h8 (by omega)) (bHQ hb hw h8) (bHN hb hw h8) B Bm
    refine ⟨fun q => by have := hpz.mp q; omega, ?_, ?_, ?_, ?_, ?_⟩
    · unfold zSolve
      rw [if_neg hnp, hE]
      split <;> rfl
    · unfold zSolve
      rw [if_neg hnp, hE]
      split <;> rfl
    · unfold zSolve
      rw [if_neg hnp, hE]
      split <;> rfl
    · unfold lSolve
      rw [if_neg hnp, hE]
    · unfold zSolve mLevel
      rw [if_neg hnp, hE]
      by_cases c4 : 4 ≤ nI c
      · rw [if_pos c4, if_pos c4]
        have c4' : 4 ≤ c := (nI_leI (a := 4) (by decide) (by omega)).mp c4
        have c4'' : 4 ≤ wC L ns := ec ▸ c4'
        have hwl : ∀ k, 1 ≤ wC (Less L k) ns := fun k => by
          have : wC L ns ≤ wC (Less L k) ns + (if k < ns then 1 else 0) := wC_less L k ns
          split at this <;> omega
        show 3 + (pFar F c (mFind L ns Bm).1 (mFind L ns Bm).2.1 (mFind L ns Bm) c).1 = 3 + (mLev L ns (mFind L ns Bm).1 (mFind L ns Bm).2.1 (mFind L ns Bm) ns).1
        rw [ec, eFar hc h8 (fun k hk hu => mAw_ne (hw.less k) h8 (hwl k)) (fun k hk hu => bHQ (hb.less k) (hw.less k) h8) (fun k hk hu => bHN (hb.less k) (hw.less k) h8) _ _ _ (mFind L ns Bm) ns (Nat.le_refl _)]
      · rw [if_neg c4, if_neg c4]
        rfl
theorem eAlarm0 {z v t w : Nat → Int32} {lc : Int64} {lv : Int32} {c : Nat} (hr : RRc v t w) (hc : c ≤ 8) (h5 : z 5 = nI c) (h10 : 4 ≤ c → z 10 = lv) (ep : Int32) (t' : Nat → Int32) : pAlarm z lc v t' 0 ep = mAlarm w lc (nI c) lv := by
  unfold pAlarm mAlarm
  rw [h5]
  by_cases c4 : 4 ≤ nI c
  · have c4' : 4 ≤ c := (nI_leI (a := 4) (by decide) (by omega)).mp c4
    rw [if_pos c4, if_pos c4, c40 c hc, h10 c4', hr.1.2.2.2.2.2.2.2.1, if_pos (rfl : (0 : Int32) = 0)]
  · rw [if_neg c4, if_neg c4]
theorem S_alarm (h : Rel e n ns nt nr M N) (hi : i < nr) (V : SX) (co : Int64) : mAlNow N ns i co = pSAl M ns nr i V := by
  have h8 := h.1.1.1
  obtain ⟨g1, g2, g3⟩ := eGS h hi (-1) V.2.2.2
  obtain ⟨hw, hcn⟩ := mLay_ok N ns i 0 (-1) ns
  have hr := h.2.2.2.2.2.1 i hi
  have h4 : (mLay N ns i 0 (-1) ns).1 (40 + i) = N (40 + i) := mLay_lo _ _ _ _ _ (Or.inr (by omega)) ns
  unfold mAlNow pSAl mLQ
  rw [h4, hcn]
  generalize hG : pGS M nr i (-1) V.2.2.2 ns = G at g1 g2
  generalize (mLay N ns i 0 (-1) ns).1 = L at g1 g2 g3 hw
  have hle := wC_le L ns
  obtain ⟨s5, s3, s4⟩ := eSolve g2 g3 hw h8 g1 V.1 V.2.1 (vB V) (mB0 L co)
  rw [g1] at s5 s3 s4 ⊢
  by_cases c4 : 4 ≤ nI (wC L ns)
  · have c4' : 4 ≤ wC L ns := (nI_leI (a := 4) (by decide) (by omega)).mp c4
    obtain ⟨-, -, -, -, q8, q10⟩ := s4 (by omega)
    rw [if_pos c4, q8]
    exact (eAlarm0 hr.1 (by omega) s5 (fun _ => q10) _ _).symm
  · rw [if_neg c4]
    unfold pAlarm
    rw [s5, if_neg c4]
theorem S_without {j : Nat} (h : Rel e n ns nt nr M N) (hi : i < nr) (V : SX) (co : Int64) : mWoM N ns i (nI j) co = pWo M ns nr i (nI j) V := by
  have h8 := h.1.1.1
  obtain ⟨g1, g2, g3⟩ := eGS h hi (nI j) V.2.2.2
  obtain ⟨hw, hcn⟩ := mLay_ok N ns i 0 (nI j) ns
  unfold mWoM pWo pWoQ mLQ
  rw [hcn]
  generalize hG : pGS M nr i (nI j) V.2.2.2 ns = G at g1 g2
  generalize (mLay N ns i 0 (nI j) ns).1 = L at g1 g2 g3 hw
  have hle := wC_le L ns
  obtain ⟨s5, s3, s4⟩ := eSolve g2 g3 hw h8 g1 V.1 V.2.1 (vB V) (mB0 L co)
  rw [g1] at s5 s3 s4 ⊢
  by_cases c3 : 3 ≤ nI (wC L ns)
  · have c3' : 3 ≤ wC L ns := (nI_leI (a := 3) (by decide) (by omega)).mp c3
    obtain ⟨q0, q6, q7, -⟩ := s4 c3'
    rw [if_pos c3, if_neg q0, q6, q7]
  · have c3' : wC L ns < 3 := by
      rcases Nat.lt_or_ge (wC L ns) 3 with q | q
      · exact q
      · exact absurd (nI_le (a := 3) q (by omega)) c3
    rw [if_neg c3, if_pos (s3 c3').1]
theorem pFold_congr {f g : Nat → Int32} : ∀ m, (∀ k, k < m → f k = g k) → ∀ d, pFold f m d = pFold g m d
  | 0, _, d => by rw [pFold_0, pFold_0]
  | m + 1, h, d => by rw [pFold_s, pFold_s, pFold_congr m (fun k hk => h k (by omega)) d, h m (by omega)]
theorem pOut_lit {k m : Nat} (h : k ≤ m) (hm : m < 2 ^ 31) {x : Int32} (hx : x = nI m) : bI (pOut (nI k) 0 x) = 0 := by
  unfold pOut
  rw [if_neg (nI_pos (by omega)), hx, if_pos (nI_le h hm)]
  rfl
theorem S_dsts (h : Rel e n ns nt nr M N) : ∀ j, j ≤ ns → ∀ d, mDSts N nt j d = pDSts M nt j d
  | 0, _, d => by rw [mDSts_0, pDSts_0]
  | j + 1, hj, d => by
    have he := h.1.2.1
    have hn := h.1.2.2
    have hs := h.2.2.1 j (by omega)
    rw [mDSts_s, pDSts_s, S_dsts h j (by omega) d]
    unfold mDSt pDSt
    rw [pFold_congr (g := fun k => pTell (M (10 + j)) (nI k)) 8 (fun k hk => eTell hs.1 hs.2.1 (pOut_lit (show k ≤ 7 by omega) (by decide) rfl)),
      pFold_congr (g := fun k => pTellM (M (10 + j)) (nI k) (M 0 0)) 8 (fun k hk => by rw [h.2.1.2.1, h.2.1.1]; exact eTellM hs.1 hs.2 (by omega) (pOut_lit (show k ≤ 7 by omega) (by decide) rfl)),
      pFold_congr (g := fun i => pFs (M (20 + i)) (M (10 + j)) 49 0) nt (fun k hk => eFs hs.1 hs.2.1 (h.2.2.2.2.1 k hk).1 49 0)]
theorem S_dsg (h : Rel e n ns nt nr M N) (hi : i < nr) : ∀ j, j ≤ ns → ∀ d, mDSg N i j d = pDSg M i j d
  | 0, _, d => by rw [mDSg_0, pDSg_0]
  | j + 1, hj, d => by
    have h8 := h.1.1.1
    have hr := h.2.2.2.2.2.1 i hi
    rw [mDSg_s, pDSg_s, S_dsg h hi j (by omega) d, pFold_congr (g := fun k => pTellG (M (60 + 8 * i + j)) (nI k)) 8 (fun k hk => eSeen (hr.2.2.2.1 j (by omega)) (pOut_lit (show k ≤ 7 by omega) (by decide) rfl))]
theorem S_drcs (h : Rel e n ns nt nr M N) : ∀ j, j ≤ nr → ∀ d, mDRcs N ns j d = pDRcs M ns j d
  | 0, _, d => by rw [mDRcs_0, pDRcs_0]
  | j + 1, hj, d => by
    rw [mDRcs_s, pDRcs_s, S_drcs h j (by omega) d]
    unfold mDRc pDRc
    rw [pFold_congr (g := fun k => pTellR M ns j (nI k)) 14 (fun k hk => eTold h (by omega) (pOut_lit (show k ≤ 13 by omega) (by decide) rfl)), S_dsg h (by omega) ns (Nat.le_refl _), eSet h (by omega) 6 ns (Nat.le_refl _)]
theorem S_digest (h : Rel e n ns nt nr M N) (V : SX) (co : Int64) : mDig N ns nt nr co = pDig M ns nt nr V := by
  have h3 := h.1.1.2.2
  have e0 : mDig0 N ns nt nr = pDig0 M ns nt nr := by
    unfold mDig0 pDig0 mDigA
    rw [pFold_congr (g := fun k => pCount M ns nt nr (nI k)) 9 (fun k hk => eMany h (pOut_lit (show k ≤ 8 by omega) (by decide) rfl)), S_dsts h ns (Nat.le_refl _), S_drcs h nr (Nat.le_refl _)]
  unfold mDig pDig
  rw [e0]
  by_cases c : nI nr ≤ 0
  · rw [if_pos c, if_pos c]
  · rw [if_neg c, if_neg c]
    have h0 : 0 < nr := by
      rcases Nat.eq_zero_or_pos nr with q | q
      · exact absurd (by rw [q]; decide) c
      · exact q
    rw [S_alarm h h0 V co]
end SU1
