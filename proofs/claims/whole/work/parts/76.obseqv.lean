-- what is observed: a receiver's own row, and all of it
section OB4
variable {e n ns nt nr i j c : Nat} {M N : Nat → Nat → Int32} {v w t z : Nat → Int32} {lv ep : Int32} {lc : Int64} {B : Bst}
theorem eAlarm1 {w2 : Nat → Int32} (hr : RRc v t w) (hv : VTr e n t) (he : e < 2 ^ 31) (hn : n < 2 ^ 31) (hc : c ≤ 8) (h5 : z 5 = nI c) (h10 : 4 ≤ c → z 10 = lv) (h6 : z 6 = B.1) (h7 : z 7 = B.2.1) (hl : lc = B.2.2.2) (h2 : w2 7 = w 7) :
    pAlarm z lc v t 1 (nI e) = mAl4 (mAlarm w2 B.2.2.2 (nI c) lv) (mN4 (mSo w (mNx w (nI e))) (nI c)) (w 12) (w 13) B := by
  have w7 := hr.1.2.2.2.2.2.2.2.1
  have w11 := hr.2.2.1
  have w12 := hr.2.2.2.1
  have w13 := hr.2.2.2.2.1
  unfold pAlarm mAlarm mAl4
  rw [h5, eNx hv hr.2.1 he hn, hl, h2, w7]
  by_cases c4 : 4 ≤ nI c
  · have c4' : 4 ≤ c := (nI_leI (a := 4) (by decide) (by omega)).mp c4
    rw [if_pos c4, if_pos c4, c40 c hc, h10 c4']
    by_cases c5 : lg_cmp B.2.2.2 (40 * (nI c).toInt64) ≤ 0
    · rw [if_pos c5, if_pos c5]
      by_cases c6 : lv ≤ v 10
      · have hn4 : ¬ nI c < 4 := fun q => absurd ((nI_ltI (b := 4) (by omega) (by decide)).mp q) (by omega)
        rw [if_pos c6, if_pos c6, if_neg (show ¬ (1 : Int32) = 0 by decide), if_pos (rfl : (0 : Int32) = 0)]
        unfold pLeaps mN4 mSo
        rw [h6, h7, w11, w12, w13]
        by_cases c7 : bI (pObsIn t (nI e - 1)) = 0
        · rw [if_pos c7, if_pos c7, if_pos (rfl : (0 : Int32) = 0), if_pos (rfl : (0 : Int32) = 0), if_pos (show bI false = 0 from rfl)]
        · rw [if_neg c7, if_neg c7]
          by_cases c8 : t 2 < 3
          · rw [if_pos c8, if_pos c8, if_pos (rfl : (0 : Int32) = 0), if_pos (rfl : (0 : Int32) = 0), if_pos (show bI false = 0 from rfl)]
          · rw [if_neg c8, if_neg c8, if_neg (show ¬ (1 : Int32) = 0 by decide), if_neg hn4, if_neg (show ¬ (1 : Int32) = 0 by decide)]
            by_cases c9 : pRange (t 5) (t 6) B.1 B.2.1 ≤ 4
            · rw [if_pos c9, if_pos c9, if_pos (show bI false = 0 from rfl)]
            · rw [if_neg c9, if_neg c9, if_neg (show ¬ bI true = 0 by decide)]
      · rw [if_neg c6, if_neg c6, if_neg (show ¬ (3 : Int32) = 0 by decide)]
    · rw [if_neg c5, if_neg c5, if_neg (show ¬ (2 : Int32) = 0 by decide)]
  · rw [if_neg c4, if_neg c4, if_neg (show ¬ (1 : Int32) = 0 by decide)]
theorem pAlarm_0 {wl : Int32} : pAlarm z lc v t wl ep ≤ 0 ↔ pAlarm z lc v t wl ep = 0 := by
  unfold pAlarm
  repeat' split
  all_goals decide
/-- no place -/
theorem eOwn0 (hr : RRc v t w) (h5 : z 5 = nI c) (hc : c < 3) (hp : bI (pHas z) = 0) (h10 : z 10 = 99) (tx ty : Int32) :
    RRc v (tKA t ep z lc (pAlarm z lc v t 1 ep) tx ty) (upd (upd (upd (upd (upd w 10 ep) 11 (nI c)) 16 99) 17 1) 19 ep) ∧ tKA t ep z lc (pAlarm z lc v t 1 ep) tx ty 10 = 1 ∧ tKA t ep z lc (pAlarm z lc v t 1 ep) tx ty 0 = t 0 + 1 ∧ tKA t ep z lc (pAlarm z lc v t 1 ep) tx ty 1 = ep ∧ tKA t ep z lc (pAlarm z lc v t 1 ep) tx ty 3 = t 3 := by
  have ea : pAlarm z lc v t 1 ep = 1 := by
    unfold pAlarm
    rw [h5, if_neg (fun q : 4 ≤ nI c => absurd ((nI_leI (a := 4) (b := c) (by decide) (by omega)).mp q) (by omega))]
  rw [ea]
  unfold tKA tKA1
  rw [if_pos hp, if_neg (show ¬ (1 : Int32) ≤ 0 by decide), h5, h10]
  obtain ⟨⟨a0, a1, a2, a3, a4, a5, a6, a7, a8, a9⟩, b10, b11, b12, b13, b14, b15, b16, b17, b18, b19, b20, b21⟩ := hr
  exact ⟨⟨⟨a0, a1, a2, a3, a4, a5, a6, a7, a8, a9⟩, rfl, rfl, b12, b13, b14, b15, rfl, rfl, b18, rfl, b20, b21⟩, rfl, rfl, rfl, rfl⟩
theorem mPl9_17 {lv al : Int32} : mPl9 v B lv al 17 = al := by
  unfold mPl9
  split
  · split
    · rfl
    · rfl
  · rfl
theorem mPl9_11 {lv al : Int32} : mPl9 v B lv al 11 = v 11 := by
  unfold mPl9
  split
  · split
    · rfl
    · rfl
  · rfl
/-- a place -/
theorem eOwn1 {al : Int32} {k : Nat} (hr : RRc v t w) (ha : al ≤ 0 ↔ al = 0) (ht : t 3 = nI k) (hk : k < 1000) (h5 : z 5 = nI c) (hp : ¬ bI (pHas z) = 0) (h10 : z 10 = lv) (h6 : z 6 = B.1) (h7 : z 7 = B.2.1) (h8 : z 8 = B.2.2.1) (hl : lc = B.2.2.2) :
    RRc v (tKA t ep z lc al (v 4) (v 5)) (if mPl9 (upd (upd (upd (upd w 10 ep) 11 (nI c)) 16 99) 17 1) B lv al 17 ≤ 0 then mPl9 (upd (upd (upd (upd w 10 ep) 11 (nI c)) 16 99) 17 1) B lv al else upd (mPl9 (upd (upd (upd (upd w 10 ep) 11 (nI c)) 16 99) 17 1) B lv al) 19 ep) ∧ tKA t ep z lc al (v 4) (v 5) 10 = al ∧ tKA t ep z lc al (v 4) (v 5) 0 = t 0 + 1 ∧ tKA t ep z lc al (v 4) (v 5) 1 = ep ∧ tKA t ep z lc al (v 4) (v 5) 3 = t 3 + 1 ∧ mPl9 (upd (upd (upd (upd w 10 ep) 11 (nI c)) 16 99) 17 1) B lv al 11 = nI c ∧ mPl9 (upd (upd (upd (upd w 10 ep) 11 (nI c)) 16 99) 17 1) B lv al 17 = al := by
  obtain ⟨⟨a0, a1, a2, a3, a4, a5, a6, a7, a8, a9⟩, b10, b11, b12, b13, b14, b15, b16, b17, b18, b19, b20, b21⟩ := hr
  have h3 : ¬ t 3 + 1 = 0 := by
    rw [ht, nI_1]
    exact nI_ne0 (by omega) (by omega)
  have er : ∀ K : Nat → Int32, K 3 = t 3 → pErrAt (tKS1 K z lc) (v 4) (v 5) = pRange (v 4) (v 5) B.1 B.2.1 := fun K hK => by
    unfold pErrAt tKS1
    rw [show upd (upd (upd (upd (upd K 5 (z 6)) 6 (z 7)) 7 (z 8)) 8 lc.toInt32) 3 (K 3 + 1) 3 = K 3 + 1 from rfl, hK, if_neg h3]
    show pRange (z 6) (z 7) (v 4) (v 5) = pRange (v 4) (v 5) B.1 B.2.1
    rw [h6, h7, pRange_sw]
  have ed : pRange (upd (upd (upd (upd w 10 ep) 11 (nI c)) 16 99) 17 1 0) (upd (upd (upd (upd w 10 ep) 11 (nI c)) 16 99) 17 1 1) B.1 B.2.1 = pRange (v 4) (v 5) B.1 B.2.1 := by
    show pRange (w 0) (w 1) B.1 B.2.1 = pRange (v 4) (v 5) B.1 B.2.1
    rw [a0, a1]
  rw [mPl9_17, mPl9_11]
  unfold tKA
  rw [if_neg hp]
  unfold tKA1 tKS
  by_cases c0 : al = 0
  · rw [if_pos (ha.mpr c0), if_pos (ha.mpr c0), h5, h10, er (upd (upd (upd (upd (upd t 0 (t 0 + 1)) 1 ep) 2 (nI c)) 9 lv) 10 al) rfl]
    unfold mPl9
    rw [ed, if_pos c0, if_pos (show upd (upd (upd (upd (upd t 0 (t 0 + 1)) 1 ep) 2 (nI c)) 9 lv) 10 al 10 = 0 from c0)]
    unfold tKS1 mPl6 mPl4
    rw [h6, h7, h8, hl]
    by_cases c1 : pRange (v 4) (v 5) B.1 B.2.1 ≤ lv
    · rw [if_pos c1, if_pos (show pRange (v 4) (v 5) B.1 B.2.1 ≤ upd (upd (upd (upd (upd t 0 (t 0 + 1)) 1 ep) 2 (nI c)) 9 lv) 10 al 9 from c1)]
      generalize hT : pRange (v 4) (v 5) B.1 B.2.1 = rg
      exact ⟨⟨⟨a0, a1, a2, a3, a4, a5, a6, a7, a8, a9⟩, rfl, rfl, rfl, rfl, rfl, rfl, rfl, rfl, b18, b19, congrArg (· + 1) b20, congrArg (· + rg) b21⟩, rfl, rfl, rfl, rfl, rfl, rfl⟩
    · rw [if_neg c1, if_neg (show ¬ pRange (v 4) (v 5) B.1 B.2.1 ≤ upd (upd (upd (upd (upd t 0 (t 0 + 1)) 1 ep) 2 (nI c)) 9 lv) 10 al 9 from c1)]
      generalize hT : pRange (v 4) (v 5) B.1 B.2.1 = rg
      exact ⟨⟨⟨a0, a1, a2, a3, a4, a5, a6, a7, a8, a9⟩, rfl, rfl, rfl, rfl, rfl, rfl, rfl, rfl, congrArg (· + 1) b18, b19, congrArg (· + 1) b20, congrArg (· + rg) b21⟩, rfl, rfl, rfl, rfl, rfl, rfl⟩
  · have c0' : ¬ al ≤ 0 := fun q => c0 (ha.mp q)
    rw [if_neg c0', if_neg c0', h5, h10, er (upd (upd (upd (upd (upd (upd t 0 (t 0 + 1)) 1 ep) 2 (nI c)) 9 lv) 10 al) 12 ep) rfl]
    unfold mPl9
    rw [ed, if_neg c0, if_neg (show ¬ upd (upd (upd (upd (upd (upd t 0 (t 0 + 1)) 1 ep) 2 (nI c)) 9 lv) 10 al) 12 ep 10 = 0 from c0)]
    unfold tKS1 mPl6 mPl4
    rw [h6, h7, h8, hl]
    generalize hT : pRange (v 4) (v 5) B.1 B.2.1 = rg
    exact ⟨⟨⟨a0, a1, a2, a3, a4, a5, a6, a7, a8, a9⟩, rfl, rfl, rfl, rfl, rfl, rfl, rfl, rfl, b18, rfl, congrArg (· + 1) b20, congrArg (· + rg) b21⟩, rfl, rfl, rfl, rfl, rfl, rfl⟩
end OB4
