-- the model's methods that write
def thr (N : Nat → Nat → Int32) (k : Int32) : Nat → Nat → Int32 := mset N 0 (upd (N 0) 0 k)
theorem thr_thr (N : Nat → Nat → Int32) (a k : Int32) : thr (thr N a) k = thr N k := by
  unfold thr
  rw [mset_mset, mset_s, upd_upd]
theorem thr_n {N : Nat → Nat → Int32} {a : Int32} {k : Nat} (h : k ≠ 0) : thr N a k = N k := mset_n h
def MN (N : Nat → Nat → Int32) (ns nt nr : Nat) : Prop := N 0 8 = nI ns ∧ N 0 9 = nI nt ∧ N 0 10 = nI nr
theorem MN.thr {N : Nat → Nat → Int32} {ns nt nr : Nat} {k : Int32} (h : MN N ns nt nr) : MN (thr N k) ns nt nr := h
theorem MW.setL {D : va_G} {cy : Nat → ClassId} {md : Nat → Nat} {N : Nat → Nat → Int32} {c s c' s' : Int64} {H H1 : Heap} (h : MW D cy md N c s H) (hA : MI md) (hP : va_P D vwCl [(md 0, .inr (7, mO md N c' s'))] H1) (oq : ∀ q : Nat, q ≠ md 0 → H1[q]? = H[q]?) : MW D cy md N c' s' H1 := by
  intro k e he
  by_cases e9 : k = 0
  · subst e9
    unfold mC at he
    rw [if_pos rfl] at he
    cases he
    exact hP
  · have e8 : mC cy md N c' s' k = mC cy md N c s k := by
      unfold mC
      rw [if_neg e9, if_neg e9]
    rw [e8] at he
    exact kP_keep (h k e he) oq (fun q => e9 (hA _ _ (mC_live he) (Or.inl (by omega)) q))
theorem mIs_out (v lo hi : Int32) : mIs v lo hi = !(pOut v lo hi) := by
  unfold mIs pOut
  by_cases h1 : v < lo
  · rw [if_pos h1, if_pos h1]; rfl
  · rw [if_neg h1, if_neg h1]
    by_cases h2 : v ≤ hi
    · rw [if_pos h2, if_neg (Int32.not_lt.mpr h2)]; rfl
    · rw [if_neg h2, if_pos (Int32.not_le.mp h2)]; rfl
theorem mIs_t {v lo hi : Int32} (h : ¬ bI (mIs v lo hi) = 0) : bI (pOut v lo hi) = 0 := by
  rw [mIs_out] at h
  cases hp : pOut v lo hi with
  | false => rfl
  | true => rw [hp] at h; exact absurd rfl h
theorem mIs_f {v lo hi : Int32} (h : bI (mIs v lo hi) = 0) : ¬ bI (pOut v lo hi) = 0 := by
  rw [mIs_out] at h
  cases hp : pOut v lo hi with
  | false => rw [hp] at h; exact absurd h (by decide)
  | true => decide
theorem mPlace_no (x y : Int32) : mPlace x y = !(pNoPlace x y) := by
  unfold mPlace pNoPlace
  rw [mIs_out, mIs_out]
  cases pOut x (-12) 12 <;> cases pOut y 0 12 <;> rfl
theorem mPl_t {x y : Int32} (h : ¬ bI (mPlace x y) = 0) : bI (pNoPlace x y) = 0 := by
  rw [mPlace_no] at h
  cases hp : pNoPlace x y with
  | false => rfl
  | true => rw [hp] at h; exact absurd rfl h
theorem mPl_f {x y : Int32} (h : bI (mPlace x y) = 0) : ¬ bI (pNoPlace x y) = 0 := by
  rw [mPlace_no] at h
  cases hp : pNoPlace x y with
  | false => rw [hp] at h; exact absurd h (by decide)
  | true => decide
/-- what a public method of the model leaves: a refusal, or what P says -/
def mOut (D : va_G) (cy : Nat → ClassId) (md : Nat → Nat) (N : Nat → Nat → Int32) (co su : Int64) (k : Int32) (P : Int32 → Heap → Prop) (r : Int32) (H : Heap) : Prop :=
  (k = 1 ∧ MW D cy md (thr N 1) co su H) ∨ (k = 2 ∧ MW D cy md (thr N 2) co su H) ∨ (k = 0 ∧ P r H)
theorem mLt_t {n m : Nat} (hm : m < 2 ^ 31) (h : n ≤ m) (hn : ¬ nI n = nI m) : nI n < nI m := nI_lt (Nat.lt_of_le_of_ne h (fun e => hn (by rw [e]))) hm
theorem mLt_f {n m : Nat} (hn : nI n = nI m) : ¬ nI n < nI m := by rw [hn]; exact Int32.lt_irrefl
def mStarN (N : Nat → Nat → Int32) (ns : Nat) (ra ph sp of dr : Int32) : Nat → Nat → Int32 :=
  mset (mset (mset N (10 + ns) (upd (upd (upd (upd (upd (upd (N (10 + ns)) 0 ra) 1 ph) 2 sp) 3 of) 4 dr) 5 1)) (20 + ns) (upd (upd (N (20 + ns)) 1 (-1)) 2 (-1))) 0 (upd (N 0) 8 (N 0 8 + 1))
def mRecV (v : Nat → Int32) (x y b : Int32) : Nat → Int32 := upd (upd (upd (upd (upd (upd (upd (upd (upd (upd (upd v 0 x) 1 y) 2 b) 3 5) 4 5) 6 1) 7 6) 9 (-1)) 10 (-1)) 16 99) 19 (-1)
def mListenT (N : Nat → Nat → Int32) (i j : Nat) : Nat → Int32 :=
  upd (upd (upd (upd (if N (20 + j) 0 ≤ 0 then N (20 + j) else if N 0 1 - N (20 + j) 1 ≤ 0 then N (20 + j) else upd (N (20 + j)) 4 (pHeld ((N (10 + j) 3 + N (30 + i) 1 - N (20 + j) 3) / (N 0 1 - N (20 + j) 1)) 9)) 0 (N (20 + j) 0 + 1)) 1 (N 0 1)) 2 (N (10 + j) 1)) 3 (N (10 + j) 3 + N (30 + i) 1)
theorem out_0 {w hi : Int32} (h : bI (pOut w 0 hi) = 0) : ¬ w < 0 ∧ w ≤ hi := by
  have h1 := bI_f h
  unfold pOut at h1
  by_cases c1 : w < 0
  · rw [if_pos c1] at h1; cases h1
  · rw [if_neg c1] at h1
    by_cases c2 : w ≤ hi
    · exact ⟨c1, c2⟩
    · rw [if_neg c2] at h1; cases h1
def mRow (r : Nat → Int32) : Nat → Int32 := upd (upd r 1 (pFMod (r 1 + r 2) 48)) 3 (pHeld (upd r 1 (pFMod (r 1 + r 2) 48) 3 + upd r 1 (pFMod (r 1 + r 2) 48) 4) 999)
def mStars (N : Nat → Nat → Int32) (n : Nat) : Nat → Nat → Int32 := fun k => if 10 ≤ k ∧ k < 10 + n then mRow (N k) else N k
theorem mStars_0 (N : Nat → Nat → Int32) : mStars N 0 = N := by
  funext k
  unfold mStars
  rw [if_neg (by omega)]
theorem mStars_lo (N : Nat → Nat → Int32) (n : Nat) {k : Nat} (h : k < 10) : mStars N n k = N k := by
  unfold mStars
  rw [if_neg (by omega)]
theorem mStars_at (N : Nat → Nat → Int32) (j : Nat) : mStars N j (10 + j) = N (10 + j) := by
  unfold mStars
  rw [if_neg (by omega)]
theorem mStars_s (N : Nat → Nat → Int32) (j : Nat) : mset (mStars N j) (10 + j) (mRow (mStars N j (10 + j))) = mStars N (j + 1) := by
  rw [mStars_at]
  funext k
  unfold mset
  by_cases e : k = 10 + j
  · rw [if_pos e]
    unfold mStars
    rw [if_pos (by omega), e]
  · rw [if_neg e]
    unfold mStars
    by_cases c : 10 ≤ k ∧ k < 10 + j
    · rw [if_pos c, if_pos (by omega)]
    · rw [if_neg c, if_neg (by omega)]
def mEp (N : Nat → Nat → Int32) : Nat → Nat → Int32 := mset N 0 (upd (N 0) 1 (N 0 1 + 1))
def mPassN (N : Nat → Nat → Int32) (ns : Nat) : Nat → Nat → Nat → Int32
  | 0 => N
  | k + 1 => mStars (mEp (mPassN N ns k)) ns
theorem mPassN_0 (N : Nat → Nat → Int32) (ns : Nat) : mPassN N ns 0 = N := by rw [mPassN]
theorem mPassN_s (N : Nat → Nat → Int32) (ns k : Nat) : mPassN N ns (k + 1) = mStars (mEp (mPassN N ns k)) ns := by rw [mPassN]
theorem mPassN_8 (N : Nat → Nat → Int32) (ns : Nat) : ∀ k, mPassN N ns k 0 8 = N 0 8
  | 0 => by rw [mPassN_0]
  | k + 1 => by
    rw [mPassN_s, mStars_lo _ _ (by decide)]
    exact mPassN_8 N ns k
def kLisM (N : Nat → Nat → Int32) (nt ns : Nat) (t x : Int32) : Int32 := if bI (pOut t 0 (nI nt - 1)) = 0 then (if bI (pOut x 0 (nI ns - 1)) = 0 then (if bI (mHear (N (10 + x.toNatClampNeg)) (N (30 + t.toNatClampNeg)) 0) = 0 then 2 else 0) else 1) else 1
def mMean (v : Nat → Int32) : UInt64 := if v 20 = 0 then FP.dconst0 else FP.ddiv (FP.i2d (v 21)) (FP.i2d (v 20))
def mOutD (D : va_G) (cy : Nat → ClassId) (md : Nat → Nat) (N : Nat → Nat → Int32) (co su : Int64) (k : Int32) (P : UInt64 → Heap → Prop) (r : UInt64) (H : Heap) : Prop :=
  (k = 1 ∧ MW D cy md (thr N 1) co su H) ∨ (k = 0 ∧ P r H)
