-- the model's asking methods as functions of its rows: r a star (radius, phase, spin, offset, drift, healthy), t its messages (issue, at, phase, offset, drift), v a receiver, g a row
def mIs (v lo hi : Int32) : Bool := if v < lo then false else if hi < v then false else true
def mPlace (x y : Int32) : Bool := if bI (mIs x (-12) 12) = 0 then false else if bI (mIs y 0 12) = 0 then false else true
def mX (r : Nat → Int32) (ph : Int32) : Int32 := r 0 * pT (pFMod ph 48) / 12
def mY (r : Nat → Int32) (ph : Int32) : Int32 := r 0 * pT (pFMod (ph + 12) 48) / 12
def mPh (r : Nat → Int32) (k : Int32) : Int32 := r 1 + k * r 2
def mTP (ep : Int32) (r t : Nat → Int32) : Int32 := t 2 + (ep - t 1) * r 2
def mTO (ep : Int32) (t : Nat → Int32) : Int32 := t 3 + (ep - t 1) * t 4
def mHolds (ep : Int32) (t : Nat → Int32) : Bool := if t 0 ≤ 0 then false else if 12 < ep - t 1 then false else true
def mHear (r sn : Nat → Int32) (k : Int32) : Bool := if r 5 = 1 then if mY r (mPh r k) < 10 then false else if 2 * mY r (mPh r k) < pAbs (mX r (mPh r k) - sn 0) then false else true else false
def mSees (v r : Nat → Int32) (k : Int32) : Bool := if r 5 = 1 then if mY r (mPh r k) - v 1 < (if v 0 ≤ mX r (mPh r k) then v 4 else v 3) then false else true else false
def mSet (v : Nat → Int32) (N : Nat → Nat → Int32) (k : Int32) : Nat → Int32
  | 0 => 0
  | j + 1 => mSet v N k j ||| (if bI (mSees v (N (10 + j)) k) = 0 then (0 : Int32) else (1 : Int32) <<< (nI j &&& 31))
theorem mSet_0 (v : Nat → Int32) (N : Nat → Nat → Int32) (k : Int32) : mSet v N k 0 = 0 := by rw [mSet]
theorem mSet_s (v : Nat → Int32) (N : Nat → Nat → Int32) (k : Int32) (j : Nat) : mSet v N k (j + 1) = mSet v N k j ||| (if bI (mSees v (N (10 + j)) k) = 0 then (0 : Int32) else (1 : Int32) <<< (nI j &&& 31)) := by rw [mSet]
def mTrue (v r : Nat → Int32) : Int32 := pRange (v 0) (v 1) (mX r (r 1)) (mY r (r 1)) + r 3 + v 2 + (if v 0 ≤ mX r (r 1) then -v 8 else v 8)
def mDelay (v r : Nat → Int32) : Int32 := if v 6 = 1 then 0 else if pAbs (mX r (r 1) - v 0) ≤ pAbs (mY r (r 1) - v 1) then v 5 else 2 * v 5
def mCode (ep : Int32) (v r : Nat → Int32) (i j : Nat) : Int32 := mTrue v r + mDelay v r + pFMod (7 * ep + 3 * nI j + 2 * nI i) 5 - 2
def mFs (r sn : Nat → Int32) : Nat → Nat → Int32
  | 0, _ => -1
  | f + 1, k => if bI (mHear r sn (nI k)) = 0 then mFs r sn f (k + 1) else nI k
theorem mFs_0 (r sn : Nat → Int32) (k : Nat) : mFs r sn 0 k = -1 := by rw [mFs]
theorem mFs_s (r sn : Nat → Int32) (f k : Nat) : mFs r sn (f + 1) k = if bI (mHear r sn (nI k)) = 0 then mFs r sn f (k + 1) else nI k := by rw [mFs]
def mOfStar (r : Nat → Int32) (w : Int32) : Int32 := if 6 ≤ w then (if w = 6 then mX r (r 1) else mY r (r 1)) else r w.toNatClampNeg
def mMsg (ep : Int32) (r t : Nat → Int32) (w : Int32) : Int32 := if 5 ≤ w then (if w = 5 then (if bI (mHolds ep t) = 0 then 0 else 1) else if t 0 = 0 then 0 else if w = 6 then pAbs (mTO ep t - r 3) else pRange (mX r (mTP ep r t)) (mY r (mTP ep r t)) (mOfStar r 6) (mOfStar r 7)) else t w.toNatClampNeg
def mSeenNow (g : Nat → Int32) (w : Int32) : Int32 := if g 11 = 1 then g w.toNatClampNeg else if w = 5 then 0 else if w = 6 then 0 else -1
def mSumR (N : Nat → Nat → Int32) (q : Nat) : Nat → Int32
  | 0 => 0
  | j + 1 => mSumR N q j + (if N (60 + 8 * q + j) 6 = 1 then N (60 + 8 * q + j) 10 else 0)
theorem mSumR_0 (N : Nat → Nat → Int32) (q : Nat) : mSumR N q 0 = 0 := by rw [mSumR]
theorem mSumR_s (N : Nat → Nat → Int32) (q j : Nat) : mSumR N q (j + 1) = mSumR N q j + (if N (60 + 8 * q + j) 6 = 1 then N (60 + 8 * q + j) 10 else 0) := by rw [mSumR]
def mAlarm (v : Nat → Int32) (co : Int64) (many lv : Int32) : Int32 := if 4 ≤ many then (if lg_cmp co (40 * many.toInt64) ≤ 0 then (if lv ≤ v 7 then 0 else 3) else 2) else 1
def mOver (N : Nat → Nat → Int32) (x y : Int32) (j : Nat) : Int32 := N 8 j - pRange x y (N 6 j) (N 7 j)
def mCorr (N : Nat → Nat → Int32) (ns i j : Nat) : Int32 :=
  if N (40 + i) 9 = -1 then 0 else if N (40 + (N (40 + i) 9).toNatClampNeg) 10 = -1 then 0 else if 5 < N 0 1 - N (40 + (N (40 + i) 9).toNatClampNeg) 10 then 0 else if N (60 + 8 * (N (40 + i) 9).toNatClampNeg + j) 6 = 0 then 0
  else N (60 + 8 * (N (40 + i) 9).toNatClampNeg + j) 10 - pFDiv (mSumR N (N (40 + i) 9).toNatClampNeg ns) (N (40 + (N (40 + i) 9).toNatClampNeg) 11)
/-- the references are receivers or none; who used a star has used some -/
def mRef (N : Nat → Nat → Int32) : Prop := (∀ i, i < 3 → N (40 + i) 9 = -1 ∨ ∃ q, q < 3 ∧ N (40 + i) 9 = nI q) ∧ ∀ q j, q < 3 → j < 8 → ¬ N (60 + 8 * q + j) 6 = 0 → ¬ N (40 + q) 11 = 0
theorem in_what {w : Int32} {n : Nat} (hn : n < 2 ^ 31) (h0 : ¬ w < 0) (h : ¬ nI n ≤ w) : vp_in w n := by
  obtain ⟨k, hk, rfl⟩ := nI_of h0
  refine vp_in_nI ?_ hn
  rcases Nat.lt_or_ge k n with q | q
  · exact q
  · exact absurd (nI_le q hk) h
theorem in_le {w : Int32} {n m : Nat} (hn : n < 2 ^ 31) (hm : m < n) (h0 : ¬ w < 0) (h : w ≤ nI m) : vp_in w n := by
  obtain ⟨k, hk, rfl⟩ := nI_of h0
  refine vp_in_nI ?_ hn
  have := (nI_leI hk (by omega)).mp h
  omega
