-- the model's search
def mSw (N : Nat → Nat → Int32) (x y : Int32) : Nat → Int32
  | 0 => 0
  | j + 1 => if N 9 j = 0 then mSw N x y j else mSw N x y j + N 9 j * mOver N x y j
def mAw (N : Nat → Nat → Int32) : Nat → Int32
  | 0 => 0
  | j + 1 => if N 9 j = 0 then mAw N j else mAw N j + N 9 j
def mCw (N : Nat → Nat → Int32) (x y tm : Int32) : Nat → Int64
  | 0 => 0
  | j + 1 => if N 9 j = 0 then mCw N x y tm j else mCw N x y tm j + (N 9 j).toInt64 * (mOver N x y j - tm).toInt64 * (mOver N x y j - tm).toInt64
theorem mSw_0 (N : Nat → Nat → Int32) (x y : Int32) : mSw N x y 0 = 0 := by rw [mSw]
theorem mAw_0 (N : Nat → Nat → Int32) : mAw N 0 = 0 := by rw [mAw]
theorem mCw_0 (N : Nat → Nat → Int32) (x y tm : Int32) : mCw N x y tm 0 = 0 := by rw [mCw]
theorem mSw_s (N : Nat → Nat → Int32) (x y : Int32) (j : Nat) : mSw N x y (j + 1) = if N 9 j = 0 then mSw N x y j else mSw N x y j + N 9 j * mOver N x y j := by rw [mSw]
theorem mAw_s (N : Nat → Nat → Int32) (j : Nat) : mAw N (j + 1) = if N 9 j = 0 then mAw N j else mAw N j + N 9 j := by rw [mAw]
theorem mCw_s (N : Nat → Nat → Int32) (x y tm : Int32) (j : Nat) : mCw N x y tm (j + 1) = if N 9 j = 0 then mCw N x y tm j else mCw N x y tm j + (N 9 j).toInt64 * (mOver N x y j - tm).toInt64 * (mOver N x y j - tm).toInt64 := by rw [mCw]
def mTm (N : Nat → Nat → Int32) (ns : Nat) (x y : Int32) : Int32 := pFDiv (mSw N x y ns) (mAw N ns)
/-- the best place so far: x, y, time, cost -/
def mB (N : Nat → Nat → Int32) (B : Bst) : Nat → Nat → Int32 := mset N 0 (upd (upd (upd (N 0) 15 B.1) 16 B.2.1) 17 B.2.2.1)
def mTry (N : Nat → Nat → Int32) (ns : Nat) (x y : Int32) (B : Bst) : Bst := if lg_cmp (mCw N x y (mTm N ns x y) ns) B.2.2.2 < 0 then (x, y, mTm N ns x y, mCw N x y (mTm N ns x y) ns) else B
theorem mB_mB (N : Nat → Nat → Int32) (B B' : Bst) : mset (mB N B) 0 (upd (upd (upd (mB N B 0) 15 B'.1) 16 B'.2.1) 17 B'.2.2.1) = mB N B' := by
  unfold mB
  rw [mset_mset]
  congr 1
  funext k
  rw [mset_s]
  unfold upd
  by_cases e1 : k = 17 <;> by_cases e2 : k = 16 <;> by_cases e3 : k = 15 <;> simp [e1, e2, e3]
def mRowT (N : Nat → Nat → Int32) (ns : Nat) (y : Int32) : Nat → Bst → Bst
  | 0, B => B
  | k + 1, B => mTry N ns (nI k + (-12)) y (mRowT N ns y k B)
def mSrch (N : Nat → Nat → Int32) (ns : Nat) : Nat → Bst → Bst
  | 0, B => B
  | j + 1, B => mRowT N ns (nI j) 25 (mSrch N ns j B)
theorem mRowT_0 (N : Nat → Nat → Int32) (ns : Nat) (y : Int32) (B : Bst) : mRowT N ns y 0 B = B := by rw [mRowT]
theorem mRowT_s (N : Nat → Nat → Int32) (ns : Nat) (y : Int32) (k : Nat) (B : Bst) : mRowT N ns y (k + 1) B = mTry N ns (nI k + (-12)) y (mRowT N ns y k B) := by rw [mRowT]
theorem mSrch_0 (N : Nat → Nat → Int32) (ns : Nat) (B : Bst) : mSrch N ns 0 B = B := by rw [mSrch]
theorem mSrch_s (N : Nat → Nat → Int32) (ns j : Nat) (B : Bst) : mSrch N ns (j + 1) B = mRowT N ns (nI j) 25 (mSrch N ns j B) := by rw [mSrch]
def mFind (N : Nat → Nat → Int32) (ns : Nat) (B : Bst) : Bst := mSrch N ns 13 (B.1, B.2.1, B.2.2.1, 9223372036854775807)
theorem g12 : ∀ k, k ≤ 13 → ((12 : Int32) < nI k ↔ k = 13) := by decide
theorem g12x : ∀ k, k ≤ 25 → ((12 : Int32) < nI k + (-12) ↔ k = 25) := by decide
