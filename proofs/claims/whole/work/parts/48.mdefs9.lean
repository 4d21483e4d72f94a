-- the level, with one star less at a time
theorem mB_9 (N : Nat → Nat → Int32) (B : Bst) (r : Nat → Int32) : mset (mB N B) 9 r = mB (mset N 9 r) B := by
  funext k
  unfold mB
  by_cases e : k = 9
  · rw [e, mset_s, mset_n (by decide), mset_s]
  · rw [mset_n e]
    by_cases e0 : k = 0
    · rw [e0, mset_s, mset_s, mset_n (show (0 : Nat) ≠ 9 by decide)]
    · rw [mset_n e0, mset_n e0, mset_n e]
theorem mB_back (N : Nat → Nat → Int32) (B : Bst) (k : Nat) : mset (mB (mset N 9 (upd (N 9) k 0)) B) 9 (upd (upd (N 9) k 0) k (N 9 k)) = mB N B := by
  rw [mB_9, mset_mset, upd_upd, upd_same rfl]
  congr 1
  funext j
  by_cases e : j = 9
  · rw [e, mset_s]
  · rw [mset_n e]
def mLev (N : Nat → Nat → Int32) (ns : Nat) (x y : Int32) (B : Bst) : Nat → Int32 × Bst
  | 0 => (0, B)
  | k + 1 => if N 9 k = 0 then mLev N ns x y B k else (pMax (mLev N ns x y B k).1 (pRange x y (mFind (mset N 9 (upd (N 9) k 0)) ns (mLev N ns x y B k).2).1 (mFind (mset N 9 (upd (N 9) k 0)) ns (mLev N ns x y B k).2).2.1), mFind (mset N 9 (upd (N 9) k 0)) ns (mLev N ns x y B k).2)
theorem mLev_0 (N : Nat → Nat → Int32) (ns : Nat) (x y : Int32) (B : Bst) : mLev N ns x y B 0 = (0, B) := by rw [mLev]
theorem mLev_s (N : Nat → Nat → Int32) (ns : Nat) (x y : Int32) (B : Bst) (k : Nat) : mLev N ns x y B (k + 1) = if N 9 k = 0 then mLev N ns x y B k else (pMax (mLev N ns x y B k).1 (pRange x y (mFind (mset N 9 (upd (N 9) k 0)) ns (mLev N ns x y B k).2).1 (mFind (mset N 9 (upd (N 9) k 0)) ns (mLev N ns x y B k).2).2.1), mFind (mset N 9 (upd (N 9) k 0)) ns (mLev N ns x y B k).2) := by rw [mLev]
def mLevel (N : Nat → Nat → Int32) (ns : Nat) (B : Bst) (mn : Int32) : Int32 := if 4 ≤ mn then 3 + (mLev N ns B.1 B.2.1 B ns).1 else 99
