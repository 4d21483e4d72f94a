-- what a receiver observes: its place
theorem mB_set (N : Nat → Nat → Int32) (B : Bst) {k : Nat} (hk : k ≠ 0) (r : Nat → Int32) : mset (mB N B) k r = mB (mset N k r) B := by
  unfold mB
  funext j
  by_cases e : j = k
  · subst e
    rw [mset_s, mset_n hk, mset_s]
  · rw [mset_n e]
    by_cases e0 : j = 0
    · subst e0
      rw [mset_s, mset_s, mset_n (Ne.symm hk)]
    · rw [mset_n e0, mset_n e0, mset_n e]
theorem mOver_of {N N' : Nat → Nat → Int32} (h : ∀ k, 6 ≤ k → k < 10 → N' k = N k) (x y : Int32) (j : Nat) : mOver N' x y j = mOver N x y j := by
  unfold mOver
  rw [h 8 (by decide) (by decide), h 6 (by decide) (by decide), h 7 (by decide) (by decide)]
theorem mSw_of {N N' : Nat → Nat → Int32} (h : ∀ k, 6 ≤ k → k < 10 → N' k = N k) (x y : Int32) : ∀ n, mSw N' x y n = mSw N x y n
  | 0 => by rw [mSw_0, mSw_0]
  | n + 1 => by rw [mSw_s, mSw_s, mSw_of h x y n, mOver_of h, h 9 (by decide) (by decide)]
theorem mAw_of {N N' : Nat → Nat → Int32} (h : ∀ k, 6 ≤ k → k < 10 → N' k = N k) : ∀ n, mAw N' n = mAw N n
  | 0 => by rw [mAw_0, mAw_0]
  | n + 1 => by rw [mAw_s, mAw_s, mAw_of h n, h 9 (by decide) (by decide)]
theorem mCw_of {N N' : Nat → Nat → Int32} (h : ∀ k, 6 ≤ k → k < 10 → N' k = N k) (x y tm : Int32) : ∀ n, mCw N' x y tm n = mCw N x y tm n
  | 0 => by rw [mCw_0, mCw_0]
  | n + 1 => by rw [mCw_s, mCw_s, mCw_of h x y tm n, mOver_of h, h 9 (by decide) (by decide)]
theorem mTry_of {N N' : Nat → Nat → Int32} (h : ∀ k, 6 ≤ k → k < 10 → N' k = N k) (ns : Nat) (x y : Int32) (B : Bst) : mTry N' ns x y B = mTry N ns x y B := by
  unfold mTry mTm
  rw [mSw_of h, mAw_of h, mCw_of h]
theorem mRowT_of {N N' : Nat → Nat → Int32} (h : ∀ k, 6 ≤ k → k < 10 → N' k = N k) (ns : Nat) (y : Int32) (B : Bst) : ∀ k, mRowT N' ns y k B = mRowT N ns y k B
  | 0 => by rw [mRowT_0, mRowT_0]
  | k + 1 => by rw [mRowT_s, mRowT_s, mRowT_of h ns y B k, mTry_of h]
theorem mSrch_of {N N' : Nat → Nat → Int32} (h : ∀ k, 6 ≤ k → k < 10 → N' k = N k) (ns : Nat) (B : Bst) : ∀ k, mSrch N' ns k B = mSrch N ns k B
  | 0 => by rw [mSrch_0, mSrch_0]
  | k + 1 => by rw [mSrch_s, mSrch_s, mSrch_of h ns B k, mRowT_of h]
theorem mFind_of {N N' : Nat → Nat → Int32} (h : ∀ k, 6 ≤ k → k < 10 → N' k = N k) (ns : Nat) (B : Bst) : mFind N' ns B = mFind N ns B := by
  unfold mFind
  rw [mSrch_of h]
theorem mW9_of {N N' : Nat → Nat → Int32} (h : ∀ k, 6 ≤ k → k < 10 → N' k = N k) (j : Nat) : ∀ k, 6 ≤ k → k < 10 → mset N' 9 (upd (N' 9) j 0) k = mset N 9 (upd (N 9) j 0) k := fun k a b => by
  rw [h 9 (by decide) (by decide)]
  by_cases e : k = 9
  · rw [e, mset_s, mset_s]
  · rw [mset_n e, mset_n e, h k a b]
theorem mLev_of {N N' : Nat → Nat → Int32} (h : ∀ k, 6 ≤ k → k < 10 → N' k = N k) (ns : Nat) (x y : Int32) (B : Bst) : ∀ k, mLev N' ns x y B k = mLev N ns x y B k
  | 0 => by rw [mLev_0, mLev_0]
  | k + 1 => by rw [mLev_s, mLev_s, mLev_of h ns x y B k, h 9 (by decide) (by decide), mFind_of (N := mset N 9 (upd (N 9) k 0)) (N' := mset N' 9 (upd (N 9) k 0)) (fun j a b => by have := mW9_of h k j a b; rw [h 9 (by decide) (by decide)] at this; exact this)]
theorem mLevel_of {N N' : Nat → Nat → Int32} (h : ∀ k, 6 ≤ k → k < 10 → N' k = N k) (ns : Nat) (B : Bst) (mn : Int32) : mLevel N' ns B mn = mLevel N ns B mn := by
  unfold mLevel
  rw [mLev_of h]
def mPl4 (v : Nat → Int32) (B : Bst) : Nat → Int32 := upd (upd (upd (upd v 12 B.1) 13 B.2.1) 14 B.2.2.1) 15 B.2.2.2.toInt32
def mPl6 (v : Nat → Int32) (B : Bst) (lv al : Int32) : Nat → Int32 := upd (upd (mPl4 v B) 16 lv) 17 al
def mAl4 (al nx x y : Int32) (B : Bst) : Int32 := if al = 0 then (if nx = 0 then al else if pRange x y B.1 B.2.1 ≤ 4 then al else 4) else al
def mPl9 (v : Nat → Int32) (B : Bst) (lv al : Int32) : Nat → Int32 :=
  if al = 0 then (if pRange (v 0) (v 1) B.1 B.2.1 ≤ lv then upd (upd (mPl6 v B lv al) 20 (v 20 + 1)) 21 (v 21 + pRange (v 0) (v 1) B.1 B.2.1) else upd (upd (upd (mPl6 v B lv al) 20 (v 20 + 1)) 21 (v 21 + pRange (v 0) (v 1) B.1 B.2.1)) 18 (v 18 + 1)) else upd (upd (mPl6 v B lv al) 20 (v 20 + 1)) 21 (v 21 + pRange (v 0) (v 1) B.1 B.2.1)
def mPlB (N : Nat → Nat → Int32) (ns : Nat) (co : Int64) : Bst := mFind N ns (mB0 N co)
def mPlL (N : Nat → Nat → Int32) (ns : Nat) (mn : Int32) (co : Int64) : Int32 := mLevel N ns (mPlB N ns co) mn
def mPlA (N : Nat → Nat → Int32) (ns i : Nat) (mn nx x y : Int32) (co : Int64) : Int32 := mAl4 (mAlarm (N (40 + i)) (mPlB N ns co).2.2.2 mn (mPlL N ns mn co)) nx x y (mPlB N ns co)
def mPlN (N : Nat → Nat → Int32) (ns i : Nat) (mn nx x y : Int32) (co : Int64) : Nat → Nat → Int32 :=
  mset (mB N (mPlB N ns co)) (40 + i) (mPl9 (N (40 + i)) (mPlB N ns co) (mPlL N ns mn co) (mPlA N ns i mn nx x y co))
-- what is seen, used, kept
def mNx (v : Nat → Int32) (ep : Int32) : Int32 := if v 10 = -1 then 0 else if v 10 = ep - 1 then 1 else 0
def mSo (v : Nat → Int32) (nx : Int32) : Int32 := if nx = 0 then 0 else if v 11 < 3 then 0 else 1
def mN4 (so mn : Int32) : Int32 := if so = 0 then 0 else if mn < 4 then 0 else 1
def mSeeN (N : Nat → Nat → Int32) (i : Nat) (nx : Int32) : Nat → Nat → Nat → Int32
  | 0 => N
  | j + 1 => mset (mSeeN N i nx j) (60 + 8 * i + j) (mSee (mSeeN N i nx j) i j nx)
theorem mSeeN_0 (N : Nat → Nat → Int32) (i : Nat) (nx : Int32) : mSeeN N i nx 0 = N := by rw [mSeeN]
theorem mSeeN_s (N : Nat → Nat → Int32) (i : Nat) (nx : Int32) (j : Nat) : mSeeN N i nx (j + 1) = mset (mSeeN N i nx j) (60 + 8 * i + j) (mSee (mSeeN N i nx j) i j nx) := by rw [mSeeN]
theorem mSeeN_o (N : Nat → Nat → Int32) (i : Nat) (nx : Int32) {k : Nat} : ∀ j, (k < 60 + 8 * i ∨ 60 + 8 * i + j ≤ k) → mSeeN N i nx j k = N k
  | 0, _ => by rw [mSeeN_0]
  | j + 1, h => by rw [mSeeN_s, mset_n (by omega), mSeeN_o N i nx j (by omega)]
theorem mSee_of {N N' : Nat → Nat → Int32} {i j : Nat} (h0 : N' 0 = N 0) (h4 : N' (40 + i) = N (40 + i)) (h1 : N' (10 + j) = N (10 + j)) (h6 : N' (60 + 8 * i + j) = N (60 + 8 * i + j)) (nx : Int32) : mSee N' i j nx = mSee N i j nx := by
  unfold mSee
  rw [h0, h4, h1, h6]
theorem mSeeN_at (N : Nat → Nat → Int32) (i : Nat) (nx : Int32) {j : Nat} : ∀ n, j < n → j < 8 → i < 3 → mSeeN N i nx n (60 + 8 * i + j) = mSee N i j nx
  | 0, h, _, _ => absurd h (by omega)
  | n + 1, h, h8, h3 => by
    rw [mSeeN_s]
    by_cases e : j = n
    · subst e
      rw [mset_s]
      exact mSee_of (mSeeN_o N i nx j (by omega)) (mSeeN_o N i nx j (by omega)) (mSeeN_o N i nx j (by omega)) (mSeeN_o N i nx j (by omega)) nx
    · rw [mset_n (by omega), mSeeN_at N i nx n (by omega) h8 h3]
theorem mSee_6 (N : Nat → Nat → Int32) (i j : Nat) (nx : Int32) : mSee N i j nx 6 = 0 := by
  unfold mSee
  split
  · rfl
  · rfl
theorem mSeeN_ref {N : Nat → Nat → Int32} {i : Nat} {nx : Int32} {n : Nat} (hn : n ≤ 8) (hi : i < 3) (hr : mRef N) : mRef (mSeeN N i nx n) := by
  refine ⟨fun u hu => by rw [mSeeN_o N i nx n (by omega)]; exact hr.1 u hu, fun q j hq hj => ?_⟩
  rw [mSeeN_o (k := 40 + q) N i nx n (by omega)]
  by_cases e : q = i ∧ j < n
  · obtain ⟨rfl, hjn⟩ := e
    rw [mSeeN_at N q nx n hjn hj hq, mSee_6]
    exact fun h => absurd rfl h
  · rw [mSeeN_o N i nx n (by omega)]
    exact hr.2 q j hq hj
/-- the reference of i is another, and it used some if a star's row says so -/
def mRfI (N : Nat → Nat → Int32) (i : Nat) : Prop := N (40 + i) 9 = -1 ∨ ∃ q, q < 3 ∧ q ≠ i ∧ N (40 + i) 9 = nI q ∧ ∀ j, j < 8 → ¬ N (60 + 8 * q + j) 6 = 0 → ¬ N (40 + q) 11 = 0
theorem mRfI_of {N : Nat → Nat → Int32} {i : Nat} (hi : i < 3) (hr : mRef N) (hs : ¬ N (40 + i) 9 = nI i) : mRfI N i := by
  rcases hr.1 i hi with h | ⟨q, hq, h⟩
  · exact Or.inl h
  · exact Or.inr ⟨q, hq, fun e => hs (by rw [h, e]), h, fun j hj => hr.2 q j hq hj⟩
theorem mRfI_ow {N N' : Nat → Nat → Int32} {i : Nat} (hi : i < 3) (h : ∀ k, 10 ≤ k → (k < 60 + 8 * i ∨ 68 + 8 * i ≤ k) → N' k = N k) (hr : mRfI N i) : mRfI N' i := by
  rcases hr with h1 | ⟨q, hq, hqi, h1, h2⟩
  · exact Or.inl (by rw [h _ (by omega) (by omega)]; exact h1)
  · exact Or.inr ⟨q, hq, hqi, by rw [h _ (by omega) (by omega)]; exact h1, fun j hj => by rw [h (60 + 8 * q + j) (by omega) (by omega), h (40 + q) (by omega) (by omega)]; exact h2 j hj⟩
theorem mCorr_ow {N N' : Nat → Nat → Int32} {ns i j : Nat} (h8 : ns ≤ 8) (hi : i < 3) (hj : j < 8) (h0 : N' 0 1 = N 0 1) (h : ∀ k, 10 ≤ k → (k < 60 + 8 * i ∨ 68 + 8 * i ≤ k) → N' k = N k) (hr : mRfI N i) : mCorr N' ns i j = mCorr N ns i j := by
  rcases hr with h1 | ⟨q, hq, hqi, h1, h2⟩
  · unfold mCorr
    rw [h (40 + i) (by omega) (by omega), if_pos h1, if_pos h1]
  · have hc : (N (40 + i) 9).toNatClampNeg = q := by rw [h1]; exact nI_clamp (by omega)
    have hs : ∀ n, n ≤ 8 → mSumR N' q n = mSumR N q n := by
      intro n
      induction n with
      | zero => intro _; rw [mSumR_0, mSumR_0]
      | succ n ih => intro hn; rw [mSumR_s, mSumR_s, ih (by omega), h _ (by omega) (by omega)]
    unfold mCorr
    rw [h (40 + i) (by omega) (by omega), hc, h (40 + q) (by omega) (by omega), h (60 + 8 * q + j) (by omega) (by omega), hs ns h8, h0]
def mUseRow (L : Nat → Nat → Int32) (ns i k : Nat) : Nat → Int32 :=
  upd (upd (upd (L (60 + 8 * i + k)) 6 1) 7 (mCorr L ns i k)) 10 (L 8 k + mCorr L ns i k - pRange (L (40 + i) 0) (L (40 + i) 1) (L 6 k) (L 7 k))
def mUseN (L : Nat → Nat → Int32) (ns i : Nat) : Nat → Nat → Nat → Int32
  | 0 => L
  | k + 1 => if L 9 k = 0 then mUseN L ns i k else mset (mUseN L ns i k) (60 + 8 * i + k) (mUseRow L ns i k)
theorem mUseN_0 (L : Nat → Nat → Int32) (ns i : Nat) : mUseN L ns i 0 = L := by rw [mUseN]
theorem mUseN_s (L : Nat → Nat → Int32) (ns i k : Nat) : mUseN L ns i (k + 1) = if L 9 k = 0 then mUseN L ns i k else mset (mUseN L ns i k) (60 + 8 * i + k) (mUseRow L ns i k) := by rw [mUseN]
theorem mUseN_o (L : Nat → Nat → Int32) (ns i : Nat) {k : Nat} : ∀ n, (k < 60 + 8 * i ∨ 60 + 8 * i + n ≤ k) → mUseN L ns i n k = L k
  | 0, _ => by rw [mUseN_0]
  | n + 1, h => by
    rw [mUseN_s]
    split
    · exact mUseN_o L ns i n (by omega)
    · rw [mset_n (by omega)]; exact mUseN_o L ns i n (by omega)
def mObs1 (U : Nat → Nat → Int32) (i : Nat) (mn : Int32) : Nat → Nat → Int32 :=
  mset (mset (mset U (40 + i) (upd (upd (U (40 + i)) 10 (U 0 1)) 11 mn)) 0 (upd (U 0) 2 (U 0 2 + 1))) (40 + i) (upd (upd (upd (upd (U (40 + i)) 10 (U 0 1)) 11 mn) 16 99) 17 1)
def mObsP (N : Nat → Nat → Int32) (ns i : Nat) : Nat → Nat → Int32 := mSeeN N i (mNx (N (40 + i)) (N 0 1)) ns
def mObsL (N : Nat → Nat → Int32) (ns i : Nat) : (Nat → Nat → Int32) × Nat := mLay (mObsP N ns i) ns i 1 (-1) ns
def mObsU (N : Nat → Nat → Int32) (ns i : Nat) : Nat → Nat → Int32 := mUseN (mObsL N ns i).1 ns i ns
def mObsW (N : Nat → Nat → Int32) (ns i : Nat) : Nat → Nat → Int32 := mObs1 (mObsU N ns i) i (nI (mObsL N ns i).2)
def mObsM (N : Nat → Nat → Int32) (ns i : Nat) : Int32 := nI (mObsL N ns i).2
def mObsN4 (N : Nat → Nat → Int32) (ns i : Nat) : Int32 := mN4 (mSo (N (40 + i)) (mNx (N (40 + i)) (N 0 1))) (mObsM N ns i)
def mObsZ (N : Nat → Nat → Int32) (ns i : Nat) (co : Int64) : (Nat → Nat → Int32) × Int64 :=
  if mObsM N ns i < 3 then (mObsW N ns i, co) else (mPlN (mObsW N ns i) ns i (mObsM N ns i) (mObsN4 N ns i) (N (40 + i) 12) (N (40 + i) 13) co, (mPlB (mObsW N ns i) ns co).2.2.2)
def mObsE (Z : Nat → Nat → Int32) (i : Nat) : Nat → Nat → Int32 := if Z (40 + i) 17 ≤ 0 then Z else mset Z (40 + i) (upd (Z (40 + i)) 19 (Z 0 1))
def kObsM (N : Nat → Nat → Int32) (nr : Nat) (x : Int32) : Int32 := if bI (pOut x 0 (nI nr - 1)) = 0 then (if N (40 + x.toNatClampNeg) 10 = N 0 1 then 2 else 0) else 1
