-- the class's writing methods as functions of the world's numbers
theorem upd_upd (f : Nat → Int32) (k : Nat) (v w : Int32) : upd (upd f k v) k w = upd f k w := by
  funext j
  unfold upd
  by_cases e : j = k
  · rw [if_pos e, if_pos e]
  · rw [if_neg e, if_neg e, if_neg e]
def pPass1 (M : Nat → Nat → Int32) (n : Nat) : Nat → Nat → Int32 := fun k => if k = 0 then upd (M 0) 0 (M 0 0 + 1) else if 10 ≤ k ∧ k < 10 + n then rPass (M k) else M k
theorem pPass1_0 (M : Nat → Nat → Int32) : mset M 0 (upd (M 0) 0 (M 0 0 + 1)) = pPass1 M 0 := by
  funext k
  unfold mset pPass1
  by_cases e : k = 0
  · rw [if_pos e, if_pos e]
  · rw [if_neg e, if_neg e, if_neg (by omega)]
theorem pPass1_at (M : Nat → Nat → Int32) (i : Nat) : pPass1 M i (10 + i) = M (10 + i) := by
  unfold pPass1
  rw [if_neg (by omega), if_neg (by omega)]
theorem pPass1_s (M : Nat → Nat → Int32) (i : Nat) : mset (pPass1 M i) (10 + i) (rPass (M (10 + i))) = pPass1 M (i + 1) := by
  funext k
  unfold mset
  by_cases e : k = 10 + i
  · rw [if_pos e]
    unfold pPass1
    rw [if_neg (by omega), if_pos (by omega), e]
  · rw [if_neg e]
    unfold pPass1
    by_cases e0 : k = 0
    · rw [if_pos e0, if_pos e0]
    · rw [if_neg e0, if_neg e0]
      by_cases e1 : 10 ≤ k ∧ k < 10 + i
      · rw [if_pos e1, if_pos (by omega)]
      · rw [if_neg e1, if_neg (by omega)]
def pUseW (r : Nat → Int32) (ep fx : Int32) : Int32 := if fx = 0 then (if pTY r ep ≤ pAbs (pTX r ep) then 1 else 2) else 4
def pPut (F : Nat → Nat → Int32) (n : Nat) (x y ps w : Int32) : Nat → Nat → Int32 := fset (fset (fset (fset F 0 n x) 1 n y) 2 n ps) 3 n w
def pPutS (F : Nat → Nat → Int32) (n : Nat) (r : Nat → Int32) (ep co fx : Int32) : Nat → Nat → Int32 := pPut F n (pTX r ep) (pTY r ep) (co - pTC r ep) (pUseW r ep fx)
/-- what is laid for the solver: how many, and the rows -/
def pGS (M : Nat → Nat → Int32) (nr i : Nat) (lo : Int32) (F : Nat → Nat → Int32) : Nat → Nat × (Nat → Nat → Int32)
  | 0 => (0, F)
  | j + 1 => if nI j = lo then pGS M nr i lo F j else if bI (pSee (M (30 + i)) (M (10 + j)) 0) = 0 then pGS M nr i lo F j else if bI (pHolds (M (10 + j)) (M 0 0)) = 0 then pGS M nr i lo F j
    else ((pGS M nr i lo F j).1 + 1, pPutS (pGS M nr i lo F j).2 (pGS M nr i lo F j).1 (M (10 + j)) (M 0 0) (pCode (M 0 0) (M (30 + i)) (M (10 + j)) j - pCorr M nr i j) 0)
theorem pGS_0 (M : Nat → Nat → Int32) (nr i : Nat) (lo : Int32) (F : Nat → Nat → Int32) : pGS M nr i lo F 0 = (0, F) := by rw [pGS]
theorem pGS_s (M : Nat → Nat → Int32) (nr i : Nat) (lo : Int32) (F : Nat → Nat → Int32) (j : Nat) : pGS M nr i lo F (j + 1) = if nI j = lo then pGS M nr i lo F j else if bI (pSee (M (30 + i)) (M (10 + j)) 0) = 0 then pGS M nr i lo F j else if bI (pHolds (M (10 + j)) (M 0 0)) = 0 then pGS M nr i lo F j
    else ((pGS M nr i lo F j).1 + 1, pPutS (pGS M nr i lo F j).2 (pGS M nr i lo F j).1 (M (10 + j)) (M 0 0) (pCode (M 0 0) (M (30 + i)) (M (10 + j)) j - pCorr M nr i j) 0) := by rw [pGS]
theorem pGS_le (M : Nat → Nat → Int32) (nr i : Nat) (lo : Int32) (F : Nat → Nat → Int32) : ∀ j, (pGS M nr i lo F j).1 ≤ j
  | 0 => Nat.le_of_eq (congrArg Prod.fst (pGS_0 M nr i lo F))
  | j + 1 => by
    have h := pGS_le M nr i lo F j
    rw [pGS_s]
    by_cases h1 : nI j = lo
    · rw [if_pos h1]; omega
    · rw [if_neg h1]
      by_cases h2 : bI (pSee (M (30 + i)) (M (10 + j)) 0) = 0
      · rw [if_pos h2]; omega
      · rw [if_neg h2]
        by_cases h3 : bI (pHolds (M (10 + j)) (M 0 0)) = 0
        · rw [if_pos h3]; omega
        · rw [if_neg h3]
          exact Nat.succ_le_succ h
-- a sight's row is another one, for the stars below n
def pSgs (M : Nat → Nat → Int32) (i n : Nat) (f : Nat → (Nat → Int32) → (Nat → Int32)) : Nat → Nat → Int32 := fun k => if 60 + 8 * i ≤ k ∧ k < 60 + 8 * i + n then f (k - (60 + 8 * i)) (M k) else M k
theorem pSgs_0 (M : Nat → Nat → Int32) (i : Nat) (f : Nat → (Nat → Int32) → (Nat → Int32)) : pSgs M i 0 f = M := by
  funext k
  unfold pSgs
  rw [if_neg (by omega)]
theorem pSgs_at (M : Nat → Nat → Int32) (i j : Nat) (f : Nat → (Nat → Int32) → (Nat → Int32)) : pSgs M i j f (60 + 8 * i + j) = M (60 + 8 * i + j) := by
  unfold pSgs
  rw [if_neg (by omega)]
theorem pSgs_lo (M : Nat → Nat → Int32) (i n : Nat) (f : Nat → (Nat → Int32) → (Nat → Int32)) {k : Nat} (hk : k < 60) : pSgs M i n f k = M k := by
  unfold pSgs
  rw [if_neg (by omega)]
theorem pSgs_ne (M : Nat → Nat → Int32) (i n : Nat) (f : Nat → (Nat → Int32) → (Nat → Int32)) {r j : Nat} (hr : r ≠ i) (hn : n ≤ 8) (hj : j < 8) : pSgs M i n f (60 + 8 * r + j) = M (60 + 8 * r + j) := by
  unfold pSgs
  rw [if_neg (by omega)]
theorem pSgs_s (M : Nat → Nat → Int32) (i j : Nat) (f : Nat → (Nat → Int32) → (Nat → Int32)) : mset (pSgs M i j f) (60 + 8 * i + j) (f j (M (60 + 8 * i + j))) = pSgs M i (j + 1) f := by
  funext k
  unfold mset
  by_cases e : k = 60 + 8 * i + j
  · rw [if_pos e]
    unfold pSgs
    rw [if_pos (by omega), e, show 60 + 8 * i + j - (60 + 8 * i) = j by omega]
  · rw [if_neg e]
    unfold pSgs
    by_cases e1 : 60 + 8 * i ≤ k ∧ k < 60 + 8 * i + j
    · rw [if_pos e1, if_pos (by omega)]
    · rw [if_neg e1, if_neg (by omega)]
theorem pSgs_k (M : Nat → Nat → Int32) (i j : Nat) (f : Nat → (Nat → Int32) → (Nat → Int32)) (h : f j (M (60 + 8 * i + j)) = M (60 + 8 * i + j)) : pSgs M i (j + 1) f = pSgs M i j f := by
  rw [← pSgs_s, h]
  funext k
  unfold mset
  by_cases e : k = 60 + 8 * i + j
  · rw [if_pos e, e, pSgs_at]
  · rw [if_neg e]
def fMs (M : Nat → Nat → Int32) (i : Nat) : Nat → (Nat → Int32) → (Nat → Int32) := fun j g =>
  if bI (pSee (M (30 + i)) (M (10 + j)) 0) = 0 then gLose g else gTake g (pCode (M 0 0) (M (30 + i)) (M (10 + j)) j) (pFMod (pTrue (M (30 + i)) (M (10 + j))) 10) (bI (pObsIn (M (50 + i)) (M 0 0 - 1)))
def pMs (M : Nat → Nat → Int32) (i n : Nat) : Nat → Nat → Int32 := pSgs M i n (fMs M i)
def cGM (M : Nat → Nat → Int32) (i j : Nat) : Bool := if M (60 + 8 * i + j) 0 = 0 then false else if bI (pHolds (M (10 + j)) (M 0 0)) = 0 then false else true
def fGM (M : Nat → Nat → Int32) (nr i : Nat) : Nat → (Nat → Int32) → (Nat → Int32) := fun j g => if bI (cGM M i j) = 0 then g else upd (upd g 2 1) 9 (pCorr M nr i j)
def pGM (M : Nat → Nat → Int32) (nr i n : Nat) : Nat → Nat → Int32 := pSgs M i n (fGM M nr i)
def pGMl (M : Nat → Nat → Int32) (nr i : Nat) (F : Nat → Nat → Int32) : Nat → Nat × (Nat → Nat → Int32)
  | 0 => (0, F)
  | j + 1 => if bI (cGM M i j) = 0 then pGMl M nr i F j
    else ((pGMl M nr i F j).1 + 1, pPutS (pGMl M nr i F j).2 (pGMl M nr i F j).1 (M (10 + j)) (M 0 0) (pMeas (M (60 + 8 * i + j)) - pCorr M nr i j) (M (60 + 8 * i + j) 1))
theorem pGMl_0 (M : Nat → Nat → Int32) (nr i : Nat) (F : Nat → Nat → Int32) : pGMl M nr i F 0 = (0, F) := by rw [pGMl]
theorem pGMl_s (M : Nat → Nat → Int32) (nr i : Nat) (F : Nat → Nat → Int32) (j : Nat) : pGMl M nr i F (j + 1) = if bI (cGM M i j) = 0 then pGMl M nr i F j
    else ((pGMl M nr i F j).1 + 1, pPutS (pGMl M nr i F j).2 (pGMl M nr i F j).1 (M (10 + j)) (M 0 0) (pMeas (M (60 + 8 * i + j)) - pCorr M nr i j) (M (60 + 8 * i + j) 1)) := by rw [pGMl]
theorem pGMl_le (M : Nat → Nat → Int32) (nr i : Nat) (F : Nat → Nat → Int32) : ∀ j, (pGMl M nr i F j).1 ≤ j
  | 0 => Nat.le_of_eq (congrArg Prod.fst (pGMl_0 M nr i F))
  | j + 1 => by
    have h := pGMl_le M nr i F j
    rw [pGMl_s]
    by_cases h1 : bI (cGM M i j) = 0
    · rw [if_pos h1]; omega
    · rw [if_neg h1]
      exact Nat.succ_le_succ h
/-- a correction by another receiver isn't touched by what is written into this one's sights -/
theorem pCorr_sgs {M M' : Nat → Nat → Int32} {nr i j : Nat} (hr : nr ≤ 8) (hi : i < 8) (h1 : ∀ k, k < 60 → M' k = M k) (h2 : ∀ r, r ≠ i → M' (60 + 8 * r + j) = M (60 + 8 * r + j)) (hne : M (30 + i) 12 ≠ nI i) : pCorr M' nr i j = pCorr M nr i j := by
  unfold pCorr
  rw [h1 (30 + i) (by omega)]
  by_cases c : bI (pOut (M (30 + i) 12) 0 (nI nr - 1)) = 0
  · obtain ⟨q, hq, eq⟩ := pOut_f hr c
    rw [if_pos c, if_pos c, eq, nI_clamp (by omega), h1 (50 + q) (by omega), h1 0 (by omega), h2 q (fun e => hne (by rw [eq, e]))]
  · rw [if_neg c, if_neg c]
def fOf (M : Nat → Nat → Int32) (i : Nat) : Nat → (Nat → Int32) → (Nat → Int32) := fun j g => if g 2 = 0 then g else upd g 10 (pTooFar (M (30 + i)) (M (10 + j)) (M 0 0) (pMeas g))
def fOf2 (mean : Int32) : Nat → (Nat → Int32) → (Nat → Int32) := fun _ g => if g 2 = 0 then g else upd g 10 (g 10 - mean)
def pOfS (M : Nat → Nat → Int32) (i : Nat) : Nat → Int32 × Nat
  | 0 => (0, 0)
  | j + 1 => if M (60 + 8 * i + j) 2 = 0 then pOfS M i j else ((pOfS M i j).1 + pTooFar (M (30 + i)) (M (10 + j)) (M 0 0) (pMeas (M (60 + 8 * i + j))), (pOfS M i j).2 + 1)
theorem pOfS_0 (M : Nat → Nat → Int32) (i : Nat) : pOfS M i 0 = (0, 0) := by rw [pOfS]
theorem pOfS_s (M : Nat → Nat → Int32) (i j : Nat) : pOfS M i (j + 1) = if M (60 + 8 * i + j) 2 = 0 then pOfS M i j else ((pOfS M i j).1 + pTooFar (M (30 + i)) (M (10 + j)) (M 0 0) (pMeas (M (60 + 8 * i + j))), (pOfS M i j).2 + 1) := by rw [pOfS]
theorem pOfS_le (M : Nat → Nat → Int32) (i : Nat) : ∀ j, (pOfS M i j).2 ≤ j
  | 0 => Nat.le_of_eq (congrArg Prod.snd (pOfS_0 M i))
  | j + 1 => by
    have h := pOfS_le M i j
    rw [pOfS_s]
    by_cases h1 : M (60 + 8 * i + j) 2 = 0
    · rw [if_pos h1]; omega
    · rw [if_neg h1]
      exact Nat.succ_le_succ h
def pOf (M : Nat → Nat → Int32) (i n : Nat) : Nat → Nat → Int32 := if nI (pOfS M i n).2 = 0 then pSgs M i n (fOf M i) else pSgs (pSgs M i n (fOf M i)) i n (fOf2 (pFDiv (pOfS M i n).1 (nI (pOfS M i n).2)))
