-- the class's asking methods as functions of the world's numbers
def pSet (v : Nat → Int32) (M : Nat → Nat → Int32) (k : Int32) : Nat → Int32
  | 0 => 0
  | j + 1 => if bI (pSee v (M (10 + j)) k) = 0 then pSet v M k j else pSet v M k j ||| (1 <<< (nI j &&& 31))
def pFs (t r : Nat → Int32) : Nat → Nat → Int32
  | 0, _ => -1
  | f + 1, k => if bI (pHear t r (nI k)) = 0 then pFs t r f (k + 1) else nI k
def pNoise (ep : Int32) (j : Nat) (num : Int32) : Int32 := pFMod (7 * ep + 3 * nI j + 2 * num) 5 - 2
def pCode (ep : Int32) (v r : Nat → Int32) (j : Nat) : Int32 := pTrue v r + pAir v r + pNoise ep j (v 0)
def pCorr (M : Nat → Nat → Int32) (nr : Nat) (i j : Nat) : Int32 :=
  if bI (pOut (M (30 + i) 12) 0 (nI nr - 1)) = 0 then (if bI (pObsSince (M (50 + (M (30 + i) 12).toNatClampNeg)) (M 0 0 - 5)) = 0 then 0 else if M (60 + 8 * (M (30 + i) 12).toNatClampNeg + j) 2 = 0 then 0 else M (60 + 8 * (M (30 + i) 12).toNatClampNeg + j) 10) else 0
def pTooFar (v r : Nat → Int32) (ep ms : Int32) : Int32 := ms - pTC r ep - pRange (v 4) (v 5) (pTX r ep) (pTY r ep)
def pAlarm (z : Nat → Int32) (lc : Int64) (v t : Nat → Int32) (wl ep : Int32) : Int32 :=
  if 4 ≤ z 5 then (if lg_cmp lc ((40 * z 5).toInt64) ≤ 0 then (if z 10 ≤ v 10 then (if wl = 0 then 0 else if bI (pLeaps t (z 6) (z 7) ep) = 0 then 0 else 4) else 3) else 2) else 1
def pTellR (M : Nat → Nat → Int32) (ns i : Nat) (w : Int32) : Int32 :=
  if w = 0 then M (30 + i) 4 else if w = 1 then M (30 + i) 5 else if w = 2 then pBits (pSet (M (30 + i)) M 0 ns) else if w = 13 then pErrAt (M (50 + i)) (M (30 + i) 4) (M (30 + i) 5) else pTellT (M (50 + i)) w
def pSumS (M : Nat → Nat → Int32) (w : Int32) : Nat → Int32
  | 0 => 0
  | j + 1 => pSumS M w j + (if w = 4 then (if M (10 + j) 5 = 0 then 0 else 1) else if w = 5 then (if bI (pHolds (M (10 + j)) (M 0 0)) = 0 then 0 else 1) else M (10 + j) 6)
def pSumR (M : Nat → Nat → Int32) (w : Int32) : Nat → Int32
  | 0 => 0
  | j + 1 => pSumR M w j + (if w = 7 then M (50 + j) 0 else M (50 + j) 11)
def pCount (M : Nat → Nat → Int32) (ns nt nr : Nat) (w : Int32) : Int32 :=
  if w = 0 then M 0 0 else if w = 1 then nI ns else if w = 2 then nI nt else if w = 3 then nI nr else if w = 4 then pSumS M w ns else if w = 5 then pSumS M w ns else if w = 6 then pSumS M w ns else pSumR M w nr
def pFold (f : Nat → Int32) : Nat → Int64 → Int64
  | 0, d => d
  | k + 1, d => pFold f k d * 31 + (f k).toInt64
def pDSt (M : Nat → Nat → Int32) (nt j : Nat) (d : Int64) : Int64 :=
  pFold (fun i => pFs (M (20 + i)) (M (10 + j)) 49 0) nt (pFold (fun k => pTellM (M (10 + j)) (nI k) (M 0 0)) 8 (pFold (fun k => pTell (M (10 + j)) (nI k)) 8 d))
def pDSg (M : Nat → Nat → Int32) (i : Nat) : Nat → Int64 → Int64
  | 0, d => d
  | j + 1, d => pFold (fun k => pTellG (M (60 + 8 * i + j)) (nI k)) 8 (pDSg M i j d)
def pDRc (M : Nat → Nat → Int32) (ns i : Nat) (d : Int64) : Int64 :=
  pDSg M i ns (pFold (fun k => pTellR M ns i (nI k)) 14 d) * 31 + (pSet (M (30 + i)) M 6 ns).toInt64
theorem g7 : ∀ k, k ≤ 8 → ((7 : Int32) < nI k ↔ k = 8) := by decide
theorem g13 : ∀ k, k ≤ 14 → ((13 : Int32) < nI k ↔ k = 14) := by decide
theorem g48 : ∀ k, k ≤ 49 → ((48 : Int32) < nI k ↔ k = 49) := by decide
theorem g8 : ∀ k, k ≤ 9 → ((8 : Int32) < nI k ↔ k = 9) := by decide
theorem pSumS_s (M : Nat → Nat → Int32) (w : Int32) (j : Nat) : pSumS M w (j + 1) = pSumS M w j + (if w = 4 then (if M (10 + j) 5 = 0 then 0 else 1) else if w = 5 then (if bI (pHolds (M (10 + j)) (M 0 0)) = 0 then 0 else 1) else M (10 + j) 6) := by rw [pSumS]
theorem pSumR_s (M : Nat → Nat → Int32) (w : Int32) (j : Nat) : pSumR M w (j + 1) = pSumR M w j + (if w = 7 then M (50 + j) 0 else M (50 + j) 11) := by rw [pSumR]
theorem pFold_s (f : Nat → Int32) (k : Nat) (d : Int64) : pFold f (k + 1) d = pFold f k d * 31 + (f k).toInt64 := by rw [pFold]
theorem pFold_0 (f : Nat → Int32) (d : Int64) : pFold f 0 d = d := by rw [pFold]
theorem pDSg_s (M : Nat → Nat → Int32) (i j : Nat) (d : Int64) : pDSg M i (j + 1) d = pFold (fun k => pTellG (M (60 + 8 * i + j)) (nI k)) 8 (pDSg M i j d) := by rw [pDSg]
theorem pDSg_0 (M : Nat → Nat → Int32) (i : Nat) (d : Int64) : pDSg M i 0 d = d := by rw [pDSg]
