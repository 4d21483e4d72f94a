-- what is laid to be solved
theorem upd_at {f : Nat → Int32} {j : Nat} {v : Int32} : upd f j v j = v := by unfold upd; rw [if_pos rfl]
theorem mSumR_of {N N' : Nat → Nat → Int32} {q : Nat} (h : ∀ k, 10 ≤ k → N' k = N k) : ∀ n, mSumR N' q n = mSumR N q n
  | 0 => by rw [mSumR_0, mSumR_0]
  | n + 1 => by rw [mSumR_s, mSumR_s, mSumR_of h n, h _ (by omega)]
theorem mCorr_of {N N' : Nat → Nat → Int32} {ns i j : Nat} (h0 : N' 0 = N 0) (h : ∀ k, 10 ≤ k → N' k = N k) : mCorr N' ns i j = mCorr N ns i j := by
  unfold mCorr
  rw [h (40 + i) (by omega), h0, mSumR_of h, h (40 + (N (40 + i) 9).toNatClampNeg) (by omega), h (60 + 8 * (N (40 + i) 9).toNatClampNeg + j) (by omega)]
theorem mRef_of {N N' : Nat → Nat → Int32} (h : ∀ k, 10 ≤ k → N' k = N k) (hr : mRef N) : mRef N' :=
  ⟨fun i hi => by rw [h _ (by omega)]; exact hr.1 i hi, fun q j hq hj => by rw [h _ (by omega), h _ (by omega)]; exact hr.2 q j hq hj⟩
def mW9 (P : Nat → Nat → Int32) (j : Nat) : Nat → Int32 := upd (P 9) j 0
def mLayX (P : Nat → Nat → Int32) (j : Nat) : Int32 := mX (P (10 + j)) (mTP (P 0 1) (P (10 + j)) (P (20 + j)))
def mLayY (P : Nat → Nat → Int32) (j : Nat) : Int32 := mY (P (10 + j)) (mTP (P 0 1) (P (10 + j)) (P (20 + j)))
def mFixd (P : Nat → Nat → Int32) (i j : Nat) (ar : Int32) : Bool := if ar = 0 then false else if P (60 + 8 * i + j) 5 = 1 then true else false
def mLayP (P : Nat → Nat → Int32) (ns i : Nat) (ar : Int32) (j : Nat) : Int32 := (if mFixd P i j ar then P (60 + 8 * i + j) 1 + 10 * P (60 + 8 * i + j) 2 else mCode (P 0 1) (P (40 + i)) (P (10 + j)) i j) - mTO (P 0 1) (P (20 + j)) - mCorr P ns i j
def mLayW (P : Nat → Nat → Int32) (i : Nat) (ar : Int32) (j : Nat) : Int32 := if mFixd P i j ar then 4 else if mLayY P j ≤ pAbs (mLayX P j) then 1 else 2
def cLay (P : Nat → Nat → Int32) (i : Nat) (lo : Int32) (j : Nat) : Bool := if nI j = lo then false else if bI (mHolds (P 0 1) (P (20 + j))) = 0 then false else if bI (mSees (P (40 + i)) (P (10 + j)) 0) = 0 then false else true
def mLayS (P : Nat → Nat → Int32) (ns i : Nat) (ar : Int32) (j : Nat) : Nat → Nat → Int32 :=
  mset (mset (mset (mset (mset P 9 (upd (P 9) j 0)) 6 (upd (P 6) j (mLayX P j))) 7 (upd (P 7) j (mLayY P j))) 8 (upd (P 8) j (mLayP P ns i ar j))) 9 (upd (upd (P 9) j 0) j (mLayW P i ar j))
def mLay (N : Nat → Nat → Int32) (ns i : Nat) (ar lo : Int32) : Nat → (Nat → Nat → Int32) × Nat
  | 0 => (N, 0)
  | j + 1 => if bI (cLay (mLay N ns i ar lo j).1 i lo j) = 0 then (mset (mLay N ns i ar lo j).1 9 (upd ((mLay N ns i ar lo j).1 9) j 0), (mLay N ns i ar lo j).2) else (mLayS (mLay N ns i ar lo j).1 ns i ar j, (mLay N ns i ar lo j).2 + 1)
theorem mLay_0 (N : Nat → Nat → Int32) (ns i : Nat) (ar lo : Int32) : mLay N ns i ar lo 0 = (N, 0) := by rw [mLay]
theorem mLay_s (N : Nat → Nat → Int32) (ns i : Nat) (ar lo : Int32) (j : Nat) : mLay N ns i ar lo (j + 1) = if bI (cLay (mLay N ns i ar lo j).1 i lo j) = 0 then (mset (mLay N ns i ar lo j).1 9 (upd ((mLay N ns i ar lo j).1 9) j 0), (mLay N ns i ar lo j).2) else (mLayS (mLay N ns i ar lo j).1 ns i ar j, (mLay N ns i ar lo j).2 + 1) := by rw [mLay]
theorem mLay_lo (N : Nat → Nat → Int32) (ns i : Nat) (ar lo : Int32) {k : Nat} (hk : k < 6 ∨ 10 ≤ k) : ∀ j, (mLay N ns i ar lo j).1 k = N k
  | 0 => by rw [mLay_0]
  | j + 1 => by
    rw [mLay_s]
    by_cases c : bI (cLay (mLay N ns i ar lo j).1 i lo j) = 0
    · rw [if_pos c]
      show mset _ 9 _ k = N k
      rw [mset_n (by omega)]
      exact mLay_lo N ns i ar lo hk j
    · rw [if_neg c]
      show mLayS _ ns i ar j k = N k
      unfold mLayS
      rw [mset_n (by omega), mset_n (by omega), mset_n (by omega), mset_n (by omega), mset_n (by omega)]
      exact mLay_lo N ns i ar lo hk j
