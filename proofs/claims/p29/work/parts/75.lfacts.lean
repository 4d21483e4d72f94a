-- facts for the law's cases
section LF
variable {e n ns nt nr i : Nat} {M : Nat → Nat → Int32} {r v t : Nat → Int32}
theorem le_eq {a b I : Int32} (h : I = a) (h2 : b = a) : I ≤ b := by
  rw [h, h2]
  exact Int32.le_refl _
theorem le_inc {a I : Int32} {K : Int} (hI : I = a) (h : IR a 0 K) (hK : K < 2147483647) : I ≤ a + 1 := by
  obtain ⟨p, q⟩ := h
  rw [hI, Int32.le_iff_toInt_le, i_add (by rw [tI_1]; omega) (by rw [tI_1]; omega), tI_1]
  omega
theorem sum_set {j : Nat} {r : Nat → Int32} (h6 : r 6 = M (10 + j) 6) (k : Nat) : pSumS (mset M (10 + j) r) 6 k = pSumS M 6 k :=
  sum_of k (fun q hq => by
    by_cases e9 : q = j
    · subst e9
      rw [mset_s, h6]
    · rw [mset_n (by omega)])
theorem IR.nge {x : Int32} {a b : Int} {c : Int32} (h : IR x a b) (h1 : b < c.toInt) : ¬ c ≤ x := by
  obtain ⟨p, q⟩ := h
  rw [Int32.le_iff_toInt_le]
  omega
theorem pFs_ne {t r : Nat → Int32} : ∀ f k, 1 ≤ k → k + f < 2 ^ 31 → ¬ pFs t r f k = 0
  | 0, k, _, _ => by
    rw [pFs]
    decide
  | f + 1, k, h, h2 => by
    rw [pFs]
    split
    · exact pFs_ne f (k + 1) (by omega) (by omega)
    · exact nI_ne0 (by omega) (by omega)
theorem f_hear {t r : Nat → Int32} (h : pFs t r 49 0 = 0) : ¬ bI (pHear t r 0) = 0 := fun q => by
  have h1 : pFs t r (48 + 1) 0 = 0 := h
  rw [pFs, nI_0, if_pos q] at h1
  exact pFs_ne 48 (0 + 1) (by omega) (by omega) h1
theorem JR.go {u w : Int32} (h : JR nr i v) (hu : Bd u 12) (hw : IR w 0 12) : JR nr i (upd (upd v 4 u) 5 w) := by
  obtain ⟨a0, a9, a12, a1, a4, a5, a8, a10, a11⟩ := h
  exact ⟨a0, a9, a12, a1, hu, hw, a8, a10, a11⟩
theorem JR.hills {u w : Int32} (h : JR nr i v) : JR nr i (upd (upd v 6 u) 7 w) := by
  obtain ⟨a0, a9, a12, a1, a4, a5, a8, a10, a11⟩ := h
  exact ⟨a0, a9, a12, a1, a4, a5, a8, a10, a11⟩
theorem JR.air {u : Int32} {b : Bool} (h : JR nr i v) (hu : IR u 0 9) : JR nr i (upd (upd v 8 u) 9 (bI b)) := by
  obtain ⟨a0, a9, a12, a1, a4, a5, a8, a10, a11⟩ := h
  exact ⟨a0, bI_01 b, a12, a1, a4, a5, hu, a10, a11⟩
theorem JR.alert {w : Int32} (h : JR nr i v) (hw : IR w 1 24) : JR nr i (upd v 10 w) := by
  obtain ⟨a0, a9, a12, a1, a4, a5, a8, a10, a11⟩ := h
  exact ⟨a0, a9, a12, a1, a4, a5, a8, hw, a11⟩
theorem JR.spoof {w : Int32} (h : JR nr i v) (hw : Bd w 30) : JR nr i (upd v 11 w) := by
  obtain ⟨a0, a9, a12, a1, a4, a5, a8, a10, a11⟩ := h
  exact ⟨a0, a9, a12, a1, a4, a5, a8, a10, hw⟩
theorem JR.refer {w : Int32} (h : JR nr i v) (hw : w = -1 ∨ ∃ q, q < nr ∧ w = nI q) (hne : ¬ w = nI i) : JR nr i (upd v 12 w) := by
  obtain ⟨a0, a9, a12, a1, a4, a5, a8, a10, a11⟩ := h
  refine ⟨a0, a9, ?_, a1, a4, a5, a8, a10, a11⟩
  rcases hw with hw | ⟨q, hq, hw⟩
  · exact Or.inl hw
  · exact Or.inr ⟨q, hq, fun q9 => hne (by rw [hw, q9]), hw⟩
theorem f_go {u w : Int32} (h : JR nr i v) (hu : Bd u 12) (hw : IR w 0 12) : pRange (v 4) (v 5) u w ≤ 24 := by
  obtain ⟨a0, a9, a12, a1, a4, a5, a8, a10, a11⟩ := h
  exact (pRange_IR (K := 24) a4 (a5.bd (by omega) (by omega)) hu (hw.bd (by omega) (by omega)) (by decide) (by decide)).le (by decide)
theorem f_hills {v' : Nat → Int32} (h8 : ns ≤ 8) : pTellR (mset M (30 + i) v') ns i 2 = pBits (pSet v' M 0 ns) := by
  show pBits (pSet (mset M (30 + i) v' (30 + i)) (mset M (30 + i) v') 0 ns) = _
  rw [mset_s, pSet_mset (by omega) h8]
theorem f_ref {q : Nat} (h : q < nr + 1) : nI q - 1 = -1 ∨ ∃ k, k < nr ∧ nI q - 1 = nI k := by
  rcases q with _ | q
  · exact Or.inl (by rw [nI_0]; decide)
  · exact Or.inr ⟨q, by omega, nI_pred q⟩
theorem f_refv (h3 : nr ≤ 3) (h : JR nr i v) : v 12 < nI nr := by
  obtain ⟨-, -, hq, -⟩ := h
  rcases hq with hq | ⟨q, h1, -, hq⟩
  · rw [hq, Int32.lt_iff_toInt_lt, tI_m1, nI_toInt (by omega)]
    omega
  · rw [hq]
    exact nI_lt h1 (by omega)
theorem pPN_k {q : Nat} (h : q ≠ 0) (h2 : ¬ (10 ≤ q ∧ q < 10 + ns)) : ∀ k, pPassN M ns k q = M q
  | 0 => by rw [pPassN_0]
  | k + 1 => by
    rw [pPassN_s]
    show (if q = 0 then _ else if 10 ≤ q ∧ q < 10 + ns then _ else pPassN M ns k q) = M q
    rw [if_neg h, if_neg h2]
    exact pPN_k h h2 k
theorem pPN_6 {j : Nat} (hj : j < ns) : ∀ k, pPassN M ns k (10 + j) 6 = M (10 + j) 6
  | 0 => by rw [pPassN_0]
  | k + 1 => by
    rw [pPassN_s, ← pPN_6 hj k]
    unfold pPass1
    rw [if_neg (by omega), if_pos (by omega)]
    rfl
theorem f_n6 (h : JS e n r) (hn : n < 1000) : ¬ r 6 + 1 = 0 := by
  obtain ⟨-, ⟨k, hk, ek⟩, -⟩ := h
  rw [ek, nI_1]
  exact nI_ne0 (by omega) (by omega)
theorem rTake_lo {ep dl : Int32} {c : Nat} (hc : c < 6) : rTake r ep dl c = r c := by
  unfold rTake
  show upd (upd (upd (upd _ 6 _) 7 _) 8 _) 9 _ c = r c
  rw [upd_o (by omega), upd_o (by omega), upd_o (by omega), upd_o (by omega)]
  split
  · rfl
  · split
    · rfl
    · exact upd_o (by omega)
theorem f_lis6 {ep dl : Int32} (hN : ¬ r 6 + 1 = 0) : pTellM (rTake r ep dl) 6 ep = pAbs dl := by
  have k6 : rTake r ep dl 6 = r 6 + 1 := by unfold rTake; rfl
  have k9 : rTake r ep dl 9 = r 3 + dl := rfl
  have k7 : rTake r ep dl 7 = ep := rfl
  have k3 : rTake r ep dl 3 = r 3 := rTake_lo (by decide)
  show (if rTake r ep dl 6 = 0 then 0 else pAbs (pTC (rTake r ep dl) ep - rTake r ep dl 3)) = pAbs dl
  rw [k6, if_neg hN]
  unfold pTC
  rw [k9, k7, k3, Int32.sub_self, Int32.zero_mul, Int32.add_zero, Int32.add_comm (r 3) dl, Int32.add_sub_cancel]
theorem f_lis7 {ep dl : Int32} (hN : ¬ r 6 + 1 = 0) : pTellM (rTake r ep dl) 7 ep = 0 := by
  have k6 : rTake r ep dl 6 = r 6 + 1 := by unfold rTake; rfl
  have k7 : rTake r ep dl 7 = ep := rfl
  have k8 : rTake r ep dl 8 = r 2 := rfl
  have k2 : rTake r ep dl 2 = r 2 := rTake_lo (by decide)
  have ex : pTX (rTake r ep dl) ep = pX (rTake r ep dl) 0 := by
    unfold pTX pX
    rw [k7, k8, k2, Int32.sub_self]
  have ey : pTY (rTake r ep dl) ep = pY (rTake r ep dl) 0 := by
    unfold pTY pY
    rw [k7, k8, k2, Int32.sub_self]
  show (if rTake r ep dl 6 = 0 then 0 else pRange (pTX (rTake r ep dl) ep) (pTY (rTake r ep dl) ep) (pX (rTake r ep dl) 0) (pY (rTake r ep dl) 0)) = 0
  rw [k6, if_neg hN, ex, ey]
  unfold pRange
  rw [Int32.sub_self, Int32.sub_self]
  decide
theorem f_no0 {ep : Int32} (h : ¬ t 1 = ep) : bI (pObsIn t ep) = 0 := by
  unfold pObsIn
  by_cases c : t 0 ≤ 0
  · rw [if_pos c]
    rfl
  · rw [if_neg c, if_neg h]
    rfl
theorem f_no1 (hW : JW e n ns nt nr M) (hi : i < nr) (he : e + 1 ≤ 2000) : bI (pObsIn (pPassN M ns 1 (50 + i)) (pPassN M ns 1 0 0)) = 0 := by
  have h8 := hW.1.1.1
  have e1 : pPassN M ns 1 0 0 = nI (e + 1) := (hW.pass 1 he).2.1
  obtain ⟨-, ⟨-, h1, -⟩, -⟩ := hW.2.2.2.2 i hi
  rw [e1, pPN_k (by omega) (by omega)]
  refine f_no0 (fun q9 => ?_)
  rcases h1 with ⟨-, h1⟩ | ⟨-, q, hq, h1⟩
  · rw [h1] at q9
    have h2 := congrArg Int32.toInt q9
    rw [tI_m1, nI_toInt (by omega)] at h2
    omega
  · rw [h1] at q9
    have := (nI_eq (by omega) (by omega)).mp q9
    omega
end LF
