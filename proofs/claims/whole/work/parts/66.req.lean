-- what is asked of both worlds is the same
theorem i_neg {z : Int32} (h : z.toInt ≠ -2147483648) : (-z).toInt = -z.toInt := by
  have h1 := z.toInt_lt
  have h2 := z.le_toInt
  rw [Int32.toInt_neg]
  exact Int.bmod_eq_of_le_mul_two (by omega) (by omega)
theorem pAbs_neg (z : Int32) : pAbs (-z) = pAbs z := by
  have e1 : (0 : Int32) - z = -z := by rw [Int32.sub_eq_add_neg, Int32.zero_add]
  have e2 : (0 : Int32) - -z = z := by rw [Int32.sub_eq_add_neg, Int32.zero_add, Int32.neg_neg]
  have z0 : (0 : Int32).toInt = 0 := by decide
  unfold pAbs
  rw [e1, e2]
  by_cases hm : z.toInt = -2147483648
  · have e : z = -2147483648 := Int32.toInt_inj.mp (by rw [hm]; decide)
    subst e
    decide
  have hn := i_neg hm
  by_cases h : 0 ≤ z <;> by_cases h2 : 0 ≤ -z
  · rw [if_pos h, if_pos h2]
    rw [Int32.le_iff_toInt_le] at h h2
    exact Int32.toInt_inj.mp (by omega)
  · rw [if_pos h, if_neg h2]
  · rw [if_neg h, if_pos h2]
  · rw [Int32.le_iff_toInt_le] at h h2
    omega
theorem pRange_sw (x y u v : Int32) : pRange x y u v = pRange u v x y := by
  unfold pRange
  rw [← pAbs_neg (x - u), ← pAbs_neg (y - v), Int32.neg_sub, Int32.neg_sub]
theorem nI_small {k : Nat} (h : k < 2 ^ 31) : ¬ nI k < 0 := nI_pos h
section EQ1
variable {e n : Nat} {r a t v w s sn tr : Nat → Int32}
theorem eX (h : RSt r a t) (k : Int32) : mX a (mPh a k) = pX r k := by
  obtain ⟨⟨h0, h1, h2, -⟩, -⟩ := h
  unfold mX mPh pX
  rw [pSwing_eq, h0, h1, h2]
theorem eY (h : RSt r a t) (k : Int32) : mY a (mPh a k) = pY r k := by
  obtain ⟨⟨h0, h1, h2, -⟩, -⟩ := h
  unfold mY mPh pY
  rw [pSwing_eq, h0, h1, h2]
theorem mPh0 (a : Nat → Int32) : mPh a 0 = a 1 := by
  unfold mPh
  rw [Int32.zero_mul, Int32.add_zero]
theorem eX0 (h : RSt r a t) : mX a (a 1) = pX r 0 := by rw [← eX h 0, mPh0]
theorem eY0 (h : RSt r a t) : mY a (a 1) = pY r 0 := by rw [← eY h 0, mPh0]
theorem eTX (h : RSt r a t) (ep : Int32) : mX a (mTP ep a t) = pTX r ep := by
  obtain ⟨⟨h0, h1, h2, -⟩, g0, g1, g2, -⟩ := h
  unfold mX mTP pTX
  rw [pSwing_eq, h0, h2, g1, g2]
theorem eTY (h : RSt r a t) (ep : Int32) : mY a (mTP ep a t) = pTY r ep := by
  obtain ⟨⟨h0, h1, h2, -⟩, g0, g1, g2, -⟩ := h
  unfold mY mTP pTY
  rw [pSwing_eq, h0, h2, g1, g2]
theorem eTO (h : RSt r a t) (ep : Int32) : mTO ep t = pTC r ep := by
  obtain ⟨-, g0, g1, g2, g3, g4⟩ := h
  unfold mTO pTC
  rw [g1, g3, g4]
theorem nI_sub {p q : Nat} (h : q ≤ p) : nI p - nI q = nI (p - q) := by
  have e1 : nI p = nI (p - q) + nI q := by rw [nI_add]; congr 1; omega
  rw [e1, Int32.add_sub_cancel]
theorem eHolds (h : RSt r a t) (hv : VSt e n r) (he : e < 2 ^ 31) : mHolds (nI e) t = pHolds r (nI e) := by
  obtain ⟨-, g0, g1, -⟩ := h
  obtain ⟨-, -, hv, -⟩ := hv
  unfold mHolds pHolds
  rw [g0, g1]
  rcases hv with ⟨h6, -⟩ | ⟨h6, q, hq, h7⟩
  · rw [if_pos (by rw [h6]; decide), if_pos (by rw [h6]; decide)]
  · by_cases c : r 6 ≤ 0
    · rw [if_pos c, if_pos c]
    · rw [if_neg c, if_neg c, h7, nI_sub hq]
      have e0 : pOut (nI (e - q)) 0 12 = if nI (e - q) ≤ 12 then false else true := by
        unfold pOut
        rw [if_neg (nI_small (by omega))]
      rw [e0]
      by_cases c2 : (12 : Int32) < nI (e - q)
      · rw [if_pos c2, if_neg (Int32.not_le.mpr c2), if_neg (by decide)]
      · rw [if_neg c2, if_pos (Int32.not_lt.mp c2), if_pos (by decide)]
theorem eHear (h : RSt r a t) (hv : r 5 = 0 ∨ r 5 = 1) (hs : s 0 = sn 0) (k : Int32) : mHear a s k = pHear sn r k := by
  unfold mHear pHear
  rw [eX h, eY h, hs, h.1.2.2.2.2.2]
  rcases hv with hv | hv
  · rw [hv, if_neg (by decide), if_pos rfl]
  · rw [hv, if_pos rfl, if_neg (show ¬ (1 : Int32) = 0 by decide)]
theorem eSees (h : RSt r a t) (hv : r 5 = 0 ∨ r 5 = 1) (hr : RRc v tr w) (k : Int32) : mSees w a k = pSee v r k := by
  unfold mSees pSee
  rw [eX h, eY h, h.1.2.2.2.2.2, hr.1.1, hr.1.2.1, hr.1.2.2.2.1, hr.1.2.2.2.2.1]
  rcases hv with hv | hv
  · rw [hv, if_neg (by decide), if_pos rfl]
  · rw [hv, if_pos rfl, if_neg (show ¬ (1 : Int32) = 0 by decide)]
theorem eTrue (h : RSt r a t) (hr : RRc v tr w) : mTrue w a = pTrue v r := by
  unfold mTrue pTrue
  obtain ⟨⟨w0, w1, w2, w3, w4, w5, w6, w7, w8, w9⟩, -⟩ := hr
  rw [eX0 h, eY0 h, h.1.2.2.2.1, w0, w1, w2, w8]
theorem eAir (h : RSt r a t) (hr : RRc v tr w) (hd : v 9 = 0 ∨ v 9 = 1) : mDelay w a = pAir v r := by
  unfold mDelay pAir
  obtain ⟨⟨w0, w1, w2, w3, w4, w5, w6, w7, w8, w9⟩, -⟩ := hr
  rw [eX0 h, eY0 h, w0, w1, w5]
  rcases w6 with w6 | ⟨z8, z9, w6⟩
  · rw [w6]
    rcases hd with hd | hd
    · rw [hd, if_neg (show ¬ (0 : Int32) = 1 by decide), if_pos (rfl : (0 : Int32) = 0)]
    · rw [hd, if_pos (rfl : (1 : Int32) = 1), if_neg (show ¬ (1 : Int32) = 0 by decide)]
  · rw [w6, z8, z9, if_pos (rfl : (1 : Int32) = 1), if_pos (rfl : (0 : Int32) = 0)]
    split
    · rfl
    · decide
theorem eCode (h : RSt r a t) (hr : RRc v tr w) (hd : v 9 = 0 ∨ v 9 = 1) {i : Nat} (hi : v 0 = nI i) (ep : Int32) (j : Nat) : mCode ep w a i j = pCode ep v r j := by
  unfold mCode pCode pNoise
  rw [eTrue h hr, eAir h hr hd, hi, Int32.sub_eq_add_neg, Int32.sub_eq_add_neg, Int32.add_assoc]
theorem eFs (h : RSt r a t) (hv : r 5 = 0 ∨ r 5 = 1) (hs : s 0 = sn 0) : ∀ f k, mFs a s f k = pFs sn r f k
  | 0, k => by rw [mFs_0, pFs]
  | f + 1, k => by rw [mFs_s, pFs, eHear h hv hs, eFs h hv hs f]
end EQ1
theorem eSet {e n ns nt nr i : Nat} {M N : Nat → Nat → Int32} (h : Rel e n ns nt nr M N) (hi : i < nr) (k : Int32) : ∀ j, j ≤ ns → mSet (N (40 + i)) N k j = pSet (M (30 + i)) M k j
  | 0, _ => by rw [mSet_0, pSet]
  | j + 1, hj => by
    have hs := h.2.2.1 j (by omega)
    have hr := (h.2.2.2.2.2.1 i hi).1
    rw [mSet_s, pSet, eSet h hi k j (by omega), eSees hs.1 hs.2.1 hr]
    split
    · rw [Int32.or_zero]
    · rfl
theorem w_of {w : Int32} {m : Nat} (hm : m < 2 ^ 31) (h : bI (pOut w 0 (nI m)) = 0) : ∃ k, k ≤ m ∧ w = nI k := by
  obtain ⟨h1, h2⟩ := out_0 h
  obtain ⟨k, hk, rfl⟩ := nI_of h1
  exact ⟨k, (nI_leI hk hm).mp h2, rfl⟩
theorem eTell {r a t : Nat → Int32} (h : RSt r a t) (hv : r 5 = 0 ∨ r 5 = 1) {w : Int32} (hw : bI (pOut w 0 7) = 0) : mOfStar a w = pTell r w := by
  obtain ⟨k, hk, rfl⟩ := w_of (m := 7) (by decide) hw
  obtain ⟨⟨h0, h1, h2, h3, h4, h5⟩, hq⟩ := id h
  rcases (show k = 0 ∨ k = 1 ∨ k = 2 ∨ k = 3 ∨ k = 4 ∨ k = 5 ∨ k = 6 ∨ k = 7 by omega) with e9 | e9 | e9 | e9 | e9 | e9 | e9 | e9 <;> subst e9
  · unfold mOfStar pTell; rw [if_neg (show ¬ (6 : Int32) ≤ nI 0 by decide), clI 0 (by decide), if_pos (show nI 0 = 0 by decide), h0]
  · unfold mOfStar pTell; rw [if_neg (show ¬ (6 : Int32) ≤ nI 1 by decide), clI 1 (by decide), if_neg (show ¬ nI 1 = 0 by decide), if_pos (show nI 1 = 1 by decide), h1]
  · unfold mOfStar pTell; rw [if_neg (show ¬ (6 : Int32) ≤ nI 2 by decide), clI 2 (by decide), if_neg (show ¬ nI 2 = 0 by decide), if_neg (show ¬ nI 2 = 1 by decide), if_pos (show nI 2 = 2 by decide), h2]
  · unfold mOfStar pTell; rw [if_neg (show ¬ (6 : Int32) ≤ nI 3 by decide), clI 3 (by decide), if_neg (show ¬ nI 3 = 0 by decide), if_neg (show ¬ nI 3 = 1 by decide), if_neg (show ¬ nI 3 = 2 by decide), if_pos (show nI 3 = 3 by decide), h3]
  · unfold mOfStar pTell; rw [if_neg (show ¬ (6 : Int32) ≤ nI 4 by decide), clI 4 (by decide), if_neg (show ¬ nI 4 = 0 by decide), if_neg (show ¬ nI 4 = 1 by decide), if_neg (show ¬ nI 4 = 2 by decide), if_neg (show ¬ nI 4 = 3 by decide), if_pos (show nI 4 = 4 by decide), h4]
  · unfold mOfStar pTell; rw [if_neg (show ¬ (6 : Int32) ≤ nI 5 by decide), clI 5 (by decide), if_neg (show ¬ nI 5 = 0 by decide), if_neg (show ¬ nI 5 = 1 by decide), if_neg (show ¬ nI 5 = 2 by decide), if_neg (show ¬ nI 5 = 3 by decide), if_neg (show ¬ nI 5 = 4 by decide), if_pos (show nI 5 = 5 by decide), h5]; rcases hv with hv | hv <;> rw [hv] <;> decide
  · unfold mOfStar pTell; rw [if_pos (show (6 : Int32) ≤ nI 6 by decide), if_pos (show nI 6 = 6 by decide), if_neg (show ¬ nI 6 = 0 by decide), if_neg (show ¬ nI 6 = 1 by decide), if_neg (show ¬ nI 6 = 2 by decide), if_neg (show ¬ nI 6 = 3 by decide), if_neg (show ¬ nI 6 = 4 by decide), if_neg (show ¬ nI 6 = 5 by decide), if_pos (show nI 6 = 6 by decide), eX0 h]
  · unfold mOfStar pTell; rw [if_pos (show (6 : Int32) ≤ nI 7 by decide), if_neg (show ¬ nI 7 = 6 by decide), if_neg (show ¬ nI 7 = 0 by decide), if_neg (show ¬ nI 7 = 1 by decide), if_neg (show ¬ nI 7 = 2 by decide), if_neg (show ¬ nI 7 = 3 by decide), if_neg (show ¬ nI 7 = 4 by decide), if_neg (show ¬ nI 7 = 5 by decide), if_neg (show ¬ nI 7 = 6 by decide), eY0 h]
theorem eTellM {e n : Nat} {r a t : Nat → Int32} (h : RSt r a t) (hv : VSt e n r) (he : e < 2 ^ 31) {w : Int32} (hw : bI (pOut w 0 7) = 0) : mMsg (nI e) a t w = pTellM r w (nI e) := by
  obtain ⟨k, hk, rfl⟩ := w_of (m := 7) (by decide) hw
  obtain ⟨hp, g0, g1, g2, g3, g4⟩ := id h
  rcases (show k = 0 ∨ k = 1 ∨ k = 2 ∨ k = 3 ∨ k = 4 ∨ k = 5 ∨ k = 6 ∨ k = 7 by omega) with e9 | e9 | e9 | e9 | e9 | e9 | e9 | e9 <;> subst e9
  · unfold mMsg pTellM; rw [if_neg (show ¬ (5 : Int32) ≤ nI 0 by decide), clI 0 (by decide), if_pos (show nI 0 = 0 by decide), g0]
  · unfold mMsg pTellM; rw [if_neg (show ¬ (5 : Int32) ≤ nI 1 by decide), clI 1 (by decide), if_neg (show ¬ nI 1 = 0 by decide), if_pos (show nI 1 = 1 by decide), g1]
  · unfold mMsg pTellM; rw [if_neg (show ¬ (5 : Int32) ≤ nI 2 by decide), clI 2 (by decide), if_neg (show ¬ nI 2 = 0 by decide), if_neg (show ¬ nI 2 = 1 by decide), if_pos (show nI 2 = 2 by decide), g2]
  · unfold mMsg pTellM; rw [if_neg (show ¬ (5 : Int32) ≤ nI 3 by decide), clI 3 (by decide), if_neg (show ¬ nI 3 = 0 by decide), if_neg (show ¬ nI 3 = 1 by decide), if_neg (show ¬ nI 3 = 2 by decide), if_pos (show nI 3 = 3 by decide), g3]
  · unfold mMsg pTellM; rw [if_neg (show ¬ (5 : Int32) ≤ nI 4 by decide), clI 4 (by decide), if_neg (show ¬ nI 4 = 0 by decide), if_neg (show ¬ nI 4 = 1 by decide), if_neg (show ¬ nI 4 = 2 by decide), if_neg (show ¬ nI 4 = 3 by decide), if_pos (show nI 4 = 4 by decide), g4]
  · unfold mMsg pTellM; rw [if_pos (show (5 : Int32) ≤ nI 5 by decide), if_pos (show nI 5 = 5 by decide), if_neg (show ¬ nI 5 = 0 by decide), if_neg (show ¬ nI 5 = 1 by decide), if_neg (show ¬ nI 5 = 2 by decide), if_neg (show ¬ nI 5 = 3 by decide), if_neg (show ¬ nI 5 = 4 by decide), if_pos (show nI 5 = 5 by decide), eHolds h hv he]
  · unfold mMsg pTellM; rw [if_pos (show (5 : Int32) ≤ nI 6 by decide), if_neg (show ¬ nI 6 = 5 by decide), if_pos (show nI 6 = 6 by decide), if_neg (show ¬ nI 6 = 0 by decide), if_neg (show ¬ nI 6 = 1 by decide), if_neg (show ¬ nI 6 = 2 by decide), if_neg (show ¬ nI 6 = 3 by decide), if_neg (show ¬ nI 6 = 4 by decide), if_neg (show ¬ nI 6 = 5 by decide), if_pos (show nI 6 = 6 by decide), eTO h, g0, hp.2.2.2.1]
  · unfold mMsg pTellM; rw [if_pos (show (5 : Int32) ≤ nI 7 by decide), if_neg (show ¬ nI 7 = 5 by decide), if_neg (show ¬ nI 7 = 6 by decide), if_neg (show ¬ nI 7 = 0 by decide), if_neg (show ¬ nI 7 = 1 by decide), if_neg (show ¬ nI 7 = 2 by decide), if_neg (show ¬ nI 7 = 3 by decide), if_neg (show ¬ nI 7 = 4 by decide), if_neg (show ¬ nI 7 = 5 by decide), if_neg (show ¬ nI 7 = 6 by decide), eTX h, eTY h, g0, show mOfStar a 6 = pX r 0 from eX0 h, show mOfStar a 7 = pY r 0 from eY0 h]
theorem eSeen {n : Nat} {g h : Nat → Int32} (hr : RSg n g h) {w : Int32} (hw : bI (pOut w 0 7) = 0) : mSeenNow h w = pTellG g w := by
  obtain ⟨⟨h11, h5, h6, h7⟩, b0, b1, b2, hz, hs, -⟩ := hr
  obtain ⟨k, hk, rfl⟩ := w_of (m := 7) (by decide) hw
  unfold mSeenNow
  rw [h11]
  rcases b0 with b0 | b0
  · obtain ⟨z1, z2⟩ := hz b0
    rw [b0, if_neg (by decide)]
    rcases (show k = 0 ∨ k = 1 ∨ k = 2 ∨ k = 3 ∨ k = 4 ∨ k = 5 ∨ k = 6 ∨ k = 7 by omega) with e9 | e9 | e9 | e9 | e9 | e9 | e9 | e9 <;> subst e9
    · unfold pTellG; rw [if_neg (show ¬ nI 0 = 5 by decide), if_neg (show ¬ nI 0 = 6 by decide), if_neg (show ¬ nI 0 = 5 by decide), if_neg (show ¬ nI 0 = 6 by decide), b0, if_pos rfl]
    · unfold pTellG; rw [if_neg (show ¬ nI 1 = 5 by decide), if_neg (show ¬ nI 1 = 6 by decide), if_neg (show ¬ nI 1 = 5 by decide), if_neg (show ¬ nI 1 = 6 by decide), b0, if_pos rfl]
    · unfold pTellG; rw [if_neg (show ¬ nI 2 = 5 by decide), if_neg (show ¬ nI 2 = 6 by decide), if_neg (show ¬ nI 2 = 5 by decide), if_neg (show ¬ nI 2 = 6 by decide), b0, if_pos rfl]
    · unfold pTellG; rw [if_neg (show ¬ nI 3 = 5 by decide), if_neg (show ¬ nI 3 = 6 by decide), if_neg (show ¬ nI 3 = 5 by decide), if_neg (show ¬ nI 3 = 6 by decide), b0, if_pos rfl]
    · unfold pTellG; rw [if_neg (show ¬ nI 4 = 5 by decide), if_neg (show ¬ nI 4 = 6 by decide), if_neg (show ¬ nI 4 = 5 by decide), if_neg (show ¬ nI 4 = 6 by decide), b0, if_pos rfl]
    · unfold pTellG; rw [if_pos (show nI 5 = 5 by decide), if_pos (show nI 5 = 5 by decide), z1, if_pos rfl]
    · unfold pTellG; rw [if_neg (show ¬ nI 6 = 5 by decide), if_pos (show nI 6 = 6 by decide), if_neg (show ¬ nI 6 = 5 by decide), if_pos (show nI 6 = 6 by decide), z2, if_pos rfl]
    · unfold pTellG; rw [if_neg (show ¬ nI 7 = 5 by decide), if_neg (show ¬ nI 7 = 6 by decide), if_neg (show ¬ nI 7 = 5 by decide), if_neg (show ¬ nI 7 = 6 by decide), b0, if_pos rfl]
  · obtain ⟨⟨s0, s1, s2, s3, s4⟩, -⟩ := hs b0
    rw [b0, if_pos rfl]
    rcases (show k = 0 ∨ k = 1 ∨ k = 2 ∨ k = 3 ∨ k = 4 ∨ k = 5 ∨ k = 6 ∨ k = 7 by omega) with e9 | e9 | e9 | e9 | e9 | e9 | e9 | e9 <;> subst e9
    · unfold pTellG pTellS; rw [clI 0 (by decide), if_neg (show ¬ nI 0 = 5 by decide), if_neg (show ¬ nI 0 = 6 by decide), b0, if_neg (by decide), if_pos (show nI 0 = 0 by decide), s0]
    · unfold pTellG pTellS; rw [clI 1 (by decide), if_neg (show ¬ nI 1 = 5 by decide), if_neg (show ¬ nI 1 = 6 by decide), b0, if_neg (by decide), if_neg (show ¬ nI 1 = 0 by decide), if_pos (show nI 1 = 1 by decide), s1]
    · unfold pTellG pTellS; rw [clI 2 (by decide), if_neg (show ¬ nI 2 = 5 by decide), if_neg (show ¬ nI 2 = 6 by decide), b0, if_neg (by decide), if_neg (show ¬ nI 2 = 0 by decide), if_neg (show ¬ nI 2 = 1 by decide), if_pos (show nI 2 = 2 by decide), s2]
    · unfold pTellG pTellS; rw [clI 3 (by decide), if_neg (show ¬ nI 3 = 5 by decide), if_neg (show ¬ nI 3 = 6 by decide), b0, if_neg (by decide), if_neg (show ¬ nI 3 = 0 by decide), if_neg (show ¬ nI 3 = 1 by decide), if_neg (show ¬ nI 3 = 2 by decide), if_pos (show nI 3 = 3 by decide), s3]
    · unfold pTellG pTellS; rw [clI 4 (by decide), if_neg (show ¬ nI 4 = 5 by decide), if_neg (show ¬ nI 4 = 6 by decide), b0, if_neg (by decide), if_neg (show ¬ nI 4 = 0 by decide), if_neg (show ¬ nI 4 = 1 by decide), if_neg (show ¬ nI 4 = 2 by decide), if_neg (show ¬ nI 4 = 3 by decide), if_pos (show nI 4 = 4 by decide), s4]
    · unfold pTellG; rw [clI 5 (by decide), if_pos (show nI 5 = 5 by decide), h5]; rcases b1 with q | q <;> rw [q] <;> decide
    · unfold pTellG; rw [clI 6 (by decide), if_neg (show ¬ nI 6 = 5 by decide), if_pos (show nI 6 = 6 by decide), h6]; rcases b2 with q | q <;> rw [q] <;> decide
    · unfold pTellG pTellS; rw [clI 7 (by decide), if_neg (show ¬ nI 7 = 5 by decide), if_neg (show ¬ nI 7 = 6 by decide), b0, if_neg (by decide), if_neg (show ¬ nI 7 = 0 by decide), if_neg (show ¬ nI 7 = 1 by decide), if_neg (show ¬ nI 7 = 2 by decide), if_neg (show ¬ nI 7 = 3 by decide), if_neg (show ¬ nI 7 = 4 by decide), h7]
theorem eTold {e n ns nt nr i : Nat} {M N : Nat → Nat → Int32} (h : Rel e n ns nt nr M N) (hi : i < nr) {w : Int32} (hw : bI (pOut w 0 13) = 0) : mTold N ns i w.toNatClampNeg = pTellR M ns i w := by
  obtain ⟨k, hk, rfl⟩ := w_of (m := 13) (by decide) hw
  have hset := eSet h hi 0 ns (Nat.le_refl _)
  obtain ⟨⟨w0, w1, w2, w3, w4, w5, w6, w7, w8, w9⟩, w10, w11, w12, w13, w14, w15, w16, w17, w18, w19, w20, w21⟩ := (h.2.2.2.2.2.1 i hi).1
  rw [nI_clamp (by omega)]
  rcases (show k = 0 ∨ k = 1 ∨ k = 2 ∨ k = 3 ∨ k = 4 ∨ k = 5 ∨ k = 6 ∨ k = 7 ∨ k = 8 ∨ k = 9 ∨ k = 10 ∨ k = 11 ∨ k = 12 ∨ k = 13 by omega) with e9 | e9 | e9 | e9 | e9 | e9 | e9 | e9 | e9 | e9 | e9 | e9 | e9 | e9 <;> subst e9
  · show N (40 + i) 0 = _; unfold pTellR; rw [if_pos (show nI 0 = 0 by decide), w0]
  · show N (40 + i) 1 = _; unfold pTellR; rw [if_neg (show ¬ nI 1 = 0 by decide), if_pos (show nI 1 = 1 by decide), w1]
  · show pBits (mSet (N (40 + i)) N 0 ns) = _; unfold pTellR; rw [if_neg (show ¬ nI 2 = 0 by decide), if_neg (show ¬ nI 2 = 1 by decide), if_pos (show nI 2 = 2 by decide), hset]
  · show N (40 + i) 10 = _; unfold pTellR pTellT; rw [if_neg (show ¬ nI 3 = 0 by decide), if_neg (show ¬ nI 3 = 1 by decide), if_neg (show ¬ nI 3 = 2 by decide), if_neg (show ¬ nI 3 = 13 by decide), if_pos (show nI 3 = 3 by decide), w10]
  · show N (40 + i) 11 = _; unfold pTellR pTellT; rw [if_neg (show ¬ nI 4 = 0 by decide), if_neg (show ¬ nI 4 = 1 by decide), if_neg (show ¬ nI 4 = 2 by decide), if_neg (show ¬ nI 4 = 13 by decide), if_neg (show ¬ nI 4 = 3 by decide), if_pos (show nI 4 = 4 by decide), w11]
  · show N (40 + i) 12 = _; unfold pTellR pTellT; rw [if_neg (show ¬ nI 5 = 0 by decide), if_neg (show ¬ nI 5 = 1 by decide), if_neg (show ¬ nI 5 = 2 by decide), if_neg (show ¬ nI 5 = 13 by decide), if_neg (show ¬ nI 5 = 3 by decide), if_neg (show ¬ nI 5 = 4 by decide), if_pos (show nI 5 = 5 by decide), w12]
  · show N (40 + i) 13 = _; unfold pTellR pTellT; rw [if_neg (show ¬ nI 6 = 0 by decide), if_neg (show ¬ nI 6 = 1 by decide), if_neg (show ¬ nI 6 = 2 by decide), if_neg (show ¬ nI 6 = 13 by decide), if_neg (show ¬ nI 6 = 3 by decide), if_neg (show ¬ nI 6 = 4 by decide), if_neg (show ¬ nI 6 = 5 by decide), if_pos (show nI 6 = 6 by decide), w13]
  · show N (40 + i) 14 = _; unfold pTellR pTellT; rw [if_neg (show ¬ nI 7 = 0 by decide), if_neg (show ¬ nI 7 = 1 by decide), if_neg (show ¬ nI 7 = 2 by decide), if_neg (show ¬ nI 7 = 13 by decide), if_neg (show ¬ nI 7 = 3 by decide), if_neg (show ¬ nI 7 = 4 by decide), if_neg (show ¬ nI 7 = 5 by decide), if_neg (show ¬ nI 7 = 6 by decide), if_pos (show nI 7 = 7 by decide), w14]
  · show N (40 + i) 15 = _; unfold pTellR pTellT; rw [if_neg (show ¬ nI 8 = 0 by decide), if_neg (show ¬ nI 8 = 1 by decide), if_neg (show ¬ nI 8 = 2 by decide), if_neg (show ¬ nI 8 = 13 by decide), if_neg (show ¬ nI 8 = 3 by decide), if_neg (show ¬ nI 8 = 4 by decide), if_neg (show ¬ nI 8 = 5 by decide), if_neg (show ¬ nI 8 = 6 by decide), if_neg (show ¬ nI 8 = 7 by decide), if_pos (show nI 8 = 8 by decide), w15]
  · show N (40 + i) 16 = _; unfold pTellR pTellT; rw [if_neg (show ¬ nI 9 = 0 by decide), if_neg (show ¬ nI 9 = 1 by decide), if_neg (show ¬ nI 9 = 2 by decide), if_neg (show ¬ nI 9 = 13 by decide), if_neg (show ¬ nI 9 = 3 by decide), if_neg (show ¬ nI 9 = 4 by decide), if_neg (show ¬ nI 9 = 5 by decide), if_neg (show ¬ nI 9 = 6 by decide), if_neg (show ¬ nI 9 = 7 by decide), if_neg (show ¬ nI 9 = 8 by decide), if_pos (show nI 9 = 9 by decide), w16]
  · show N (40 + i) 17 = _; unfold pTellR pTellT; rw [if_neg (show ¬ nI 10 = 0 by decide), if_neg (show ¬ nI 10 = 1 by decide), if_neg (show ¬ nI 10 = 2 by decide), if_neg (show ¬ nI 10 = 13 by decide), if_neg (show ¬ nI 10 = 3 by decide), if_neg (show ¬ nI 10 = 4 by decide), if_neg (show ¬ nI 10 = 5 by decide), if_neg (show ¬ nI 10 = 6 by decide), if_neg (show ¬ nI 10 = 7 by decide), if_neg (show ¬ nI 10 = 8 by decide), if_neg (show ¬ nI 10 = 9 by decide), if_pos (show nI 10 = 10 by decide), w17]
  · show N (40 + i) 18 = _; unfold pTellR pTellT; rw [if_neg (show ¬ nI 11 = 0 by decide), if_neg (show ¬ nI 11 = 1 by decide), if_neg (show ¬ nI 11 = 2 by decide), if_neg (show ¬ nI 11 = 13 by decide), if_neg (show ¬ nI 11 = 3 by decide), if_neg (show ¬ nI 11 = 4 by decide), if_neg (show ¬ nI 11 = 5 by decide), if_neg (show ¬ nI 11 = 6 by decide), if_neg (show ¬ nI 11 = 7 by decide), if_neg (show ¬ nI 11 = 8 by decide), if_neg (show ¬ nI 11 = 9 by decide), if_neg (show ¬ nI 11 = 10 by decide), if_pos (show nI 11 = 11 by decide), w18]
  · show N (40 + i) 19 = _; unfold pTellR pTellT; rw [if_neg (show ¬ nI 12 = 0 by decide), if_neg (show ¬ nI 12 = 1 by decide), if_neg (show ¬ nI 12 = 2 by decide), if_neg (show ¬ nI 12 = 13 by decide), if_neg (show ¬ nI 12 = 3 by decide), if_neg (show ¬ nI 12 = 4 by decide), if_neg (show ¬ nI 12 = 5 by decide), if_neg (show ¬ nI 12 = 6 by decide), if_neg (show ¬ nI 12 = 7 by decide), if_neg (show ¬ nI 12 = 8 by decide), if_neg (show ¬ nI 12 = 9 by decide), if_neg (show ¬ nI 12 = 10 by decide), if_neg (show ¬ nI 12 = 11 by decide), w19]
  · show (if N (40 + i) 20 = 0 then 0 else pRange (N (40 + i) 0) (N (40 + i) 1) (N (40 + i) 12) (N (40 + i) 13)) = _; unfold pTellR pErrAt; rw [if_neg (show ¬ nI 13 = 0 by decide), if_neg (show ¬ nI 13 = 1 by decide), if_neg (show ¬ nI 13 = 2 by decide), if_pos (show nI 13 = 13 by decide), w20, w0, w1, w12, w13, pRange_sw]
theorem eSumA {e n ns nt nr : Nat} {M N : Nat → Nat → Int32} (h : Rel e n ns nt nr M N) : ∀ j, j ≤ ns → mSumA N j = pSumS M 4 j
  | 0, _ => by rw [mSumA_0]; unfold pSumS; rfl
  | j + 1, hj => by
    have hs := h.2.2.1 j (by omega)
    rw [mSumA_s, pSumS_s, eSumA h j (by omega), if_pos rfl, hs.1.1.2.2.2.2.2]
    rcases hs.2.1 with q | q
    · rw [q, if_pos rfl]
    · rw [q, if_neg (by decide)]
theorem eSumB {e n ns nt nr : Nat} {M N : Nat → Nat → Int32} (h : Rel e n ns nt nr M N) : ∀ j, j ≤ ns → mSumB N j = pSumS M 5 j
  | 0, _ => by rw [mSumB_0]; unfold pSumS; rfl
  | j + 1, hj => by
    have hs := h.2.2.1 j (by omega)
    have he := h.1.2.1
    have hn := h.1.2.2
    rw [mSumB_s, pSumS_s, eSumB h j (by omega), if_neg (show ¬ (5 : Int32) = 4 by decide), if_pos (rfl : (5 : Int32) = 5), h.2.1.2.1, h.2.1.1, eHolds hs.1 hs.2 (by omega)]
theorem eSumC {e n ns nt nr : Nat} {M N : Nat → Nat → Int32} (h : Rel e n ns nt nr M N) : ∀ j, j ≤ ns → mSumC N j = pSumS M 6 j
  | 0, _ => by rw [mSumC_0]; unfold pSumS; rfl
  | j + 1, hj => by
    have hs := h.2.2.1 j (by omega)
    rw [mSumC_s, pSumS_s, eSumC h j (by omega), if_neg (by decide), if_neg (by decide), hs.1.2.1]
theorem eSumD {e n ns nt nr : Nat} {M N : Nat → Nat → Int32} (h : Rel e n ns nt nr M N) : ∀ j, j ≤ nr → mSumD N j = pSumR M 8 j
  | 0, _ => by rw [mSumD_0]; unfold pSumR; rfl
  | j + 1, hj => by
    have hs := (h.2.2.2.2.2.1 j (by omega)).1
    rw [mSumD_s, pSumR_s, eSumD h j (by omega), if_neg (by decide), hs.2.2.2.2.2.2.2.2.2.1]
theorem eMany {e n ns nt nr : Nat} {M N : Nat → Nat → Int32} (h : Rel e n ns nt nr M N) {w : Int32} (hw : bI (pOut w 0 8) = 0) : mMany N ns nr w.toNatClampNeg = pCount M ns nt nr w := by
  obtain ⟨k, hk, rfl⟩ := w_of (m := 8) (by decide) hw
  obtain ⟨hM0, hN0, hMN, hOb⟩ := h.2.1
  rw [nI_clamp (by omega)]
  rcases (show k = 0 ∨ k = 1 ∨ k = 2 ∨ k = 3 ∨ k = 4 ∨ k = 5 ∨ k = 6 ∨ k = 7 ∨ k = 8 by omega) with e9 | e9 | e9 | e9 | e9 | e9 | e9 | e9 | e9 <;> subst e9
  · show N 0 1 = _; unfold pCount; rw [if_pos (show nI 0 = 0 by decide), hN0, hM0]
  · show N 0 8 = _; unfold pCount; rw [if_neg (show ¬ nI 1 = 0 by decide), if_pos (show nI 1 = 1 by decide), hMN.1]
  · show N 0 9 = _; unfold pCount; rw [if_neg (show ¬ nI 2 = 0 by decide), if_neg (show ¬ nI 2 = 1 by decide), if_pos (show nI 2 = 2 by decide), hMN.2.1]
  · show N 0 10 = _; unfold pCount; rw [if_neg (show ¬ nI 3 = 0 by decide), if_neg (show ¬ nI 3 = 1 by decide), if_neg (show ¬ nI 3 = 2 by decide), if_pos (show nI 3 = 3 by decide), hMN.2.2]
  · show mSumA N ns = _; unfold pCount; rw [if_neg (show ¬ nI 4 = 0 by decide), if_neg (show ¬ nI 4 = 1 by decide), if_neg (show ¬ nI 4 = 2 by decide), if_neg (show ¬ nI 4 = 3 by decide), if_pos (show nI 4 = 4 by decide), eSumA h ns (Nat.le_refl _)]; rfl
  · show mSumB N ns = _; unfold pCount; rw [if_neg (show ¬ nI 5 = 0 by decide), if_neg (show ¬ nI 5 = 1 by decide), if_neg (show ¬ nI 5 = 2 by decide), if_neg (show ¬ nI 5 = 3 by decide), if_neg (show ¬ nI 5 = 4 by decide), if_pos (show nI 5 = 5 by decide), eSumB h ns (Nat.le_refl _)]; rfl
  · show mSumC N ns = _; unfold pCount; rw [if_neg (show ¬ nI 6 = 0 by decide), if_neg (show ¬ nI 6 = 1 by decide), if_neg (show ¬ nI 6 = 2 by decide), if_neg (show ¬ nI 6 = 3 by decide), if_neg (show ¬ nI 6 = 4 by decide), if_neg (show ¬ nI 6 = 5 by decide), if_pos (show nI 6 = 6 by decide), eSumC h ns (Nat.le_refl _)]; rfl
  · show N 0 2 = _; unfold pCount; rw [if_neg (show ¬ nI 7 = 0 by decide), if_neg (show ¬ nI 7 = 1 by decide), if_neg (show ¬ nI 7 = 2 by decide), if_neg (show ¬ nI 7 = 3 by decide), if_neg (show ¬ nI 7 = 4 by decide), if_neg (show ¬ nI 7 = 5 by decide), if_neg (show ¬ nI 7 = 6 by decide), hOb]; rfl
  · show mSumD N nr = _; unfold pCount; rw [if_neg (show ¬ nI 8 = 0 by decide), if_neg (show ¬ nI 8 = 1 by decide), if_neg (show ¬ nI 8 = 2 by decide), if_neg (show ¬ nI 8 = 3 by decide), if_neg (show ¬ nI 8 = 4 by decide), if_neg (show ¬ nI 8 = 5 by decide), if_neg (show ¬ nI 8 = 6 by decide), eSumD h nr (Nat.le_refl _)]; rfl
theorem eMean {e n ns nt nr i : Nat} {M N : Nat → Nat → Int32} (h : Rel e n ns nt nr M N) (hi : i < nr) : mMean (N (40 + i)) = pMean (M (50 + i)) := by
  have hr := (h.2.2.2.2.2.1 i hi).1.2
  unfold mMean pMean
  rw [hr.2.2.2.2.2.2.2.2.2.2.1, hr.2.2.2.2.2.2.2.2.2.2.2]
