def zB (z : Nat → Int32) (B : Bst) : Nat → Int32 := upd (upd (upd z 11 B.1) 12 B.2.1) 13 B.2.2.1
def zN (z : Nat → Int32) (n : Nat) (B : Bst) : Nat → Int32 := zB (upd z 5 (nI n)) B
theorem upd_same {f : Nat → Int32} {k : Nat} {v : Int32} (h : f k = v) : upd f k v = f := by
  funext j
  unfold upd
  by_cases e : j = k
  · rw [if_pos e, e, h]
  · rw [if_neg e]
theorem zN_of {z : Nat → Int32} {n : Nat} (h : z 5 = nI n) : zN z n (z 11, z 12, z 13, 0) = z := by
  funext j
  unfold zN zB upd
  by_cases e1 : j = 13 <;> by_cases e2 : j = 12 <;> by_cases e3 : j = 11 <;> by_cases e4 : j = 5 <;> simp_all
/-- what solve leaves: level, place, time (the ints), and the cost -/
noncomputable def pR1 (F : Nat → Nat → Int32) (n : Nat) (B : Bst) : Bst := pFind F n (-1) B
noncomputable def zSolve (F : Nat → Nat → Int32) (z : Nat → Int32) (n : Nat) (B : Bst) : Nat → Int32 :=
  if bI (pHas (upd z 5 (nI n))) = 0 then upd (upd z 5 (nI n)) 10 99
  else if 4 ≤ nI n then upd (upd (upd (upd (upd z 5 (nI n)) 6 (pR1 F n B).1) 7 (pR1 F n B).2.1) 8 (pR1 F n B).2.2.1) 10 (3 + (pFar F n (pR1 F n B).1 (pR1 F n B).2.1 (pR1 F n B) n).1)
  else upd (upd (upd (upd (upd z 5 (nI n)) 10 99) 6 (pR1 F n B).1) 7 (pR1 F n B).2.1) 8 (pR1 F n B).2.2.1
noncomputable def lSolve (F : Nat → Nat → Int32) (z : Nat → Int32) (lc : Int64) (n : Nat) (B : Bst) : Int64 := if bI (pHas (upd z 5 (nI n))) = 0 then lc else (pR1 F n B).2.2.2
theorem pSrch_0 (F : Nat → Nat → Int32) (n : Nat) (lo : Int32) (b : Bst) : pSrch F n lo 0 b = b := by rw [pSrch]
theorem pSrch_s (F : Nat → Nat → Int32) (n : Nat) (lo : Int32) (b : Bst) (j : Nat) : pSrch F n lo (j + 1) b = pRowS F n lo (nI j) 25 (pSrch F n lo j b) := by rw [pSrch]
theorem pRowS_0 (F : Nat → Nat → Int32) (n : Nat) (lo py : Int32) (b : Bst) : pRowS F n lo py 0 b = b := by rw [pRowS]
theorem pRowS_s (F : Nat → Nat → Int32) (n : Nat) (lo py : Int32) (b : Bst) (k : Nat) : pRowS F n lo py (k + 1) b = pTry F n lo (nI k + (-12)) py (pRowS F n lo py k b) := by rw [pRowS]
theorem pFar_0 (F : Nat → Nat → Int32) (n : Nat) (x y : Int32) (b : Bst) : pFar F n x y b 0 = (0, b) := pFarG_0 _ x y b
theorem pFar_s (F : Nat → Nat → Int32) (n : Nat) (x y : Int32) (b : Bst) (i : Nat) : pFar F n x y b (i + 1) = (pMax (pFar F n x y b i).1 (pRange x y (pFind F n (nI i) (pFar F n x y b i).2).1 (pFind F n (nI i) (pFar F n x y b i).2).2.1), pFind F n (nI i) (pFar F n x y b i).2) := by
  unfold pFar
  rw [pFarG_s]
theorem x12_0 : (-12 : Int32) = nI 0 + (-12) := by decide
