-- the model's checksum
def mDSt (N : Nat → Nat → Int32) (nt j : Nat) (d : Int64) : Int64 :=
  pFold (fun i => mFs (N (10 + j)) (N (30 + i)) 49 0) nt (pFold (fun k => mMsg (N 0 1) (N (10 + j)) (N (20 + j)) (nI k)) 8 (pFold (fun k => mOfStar (N (10 + j)) (nI k)) 8 d))
def mDSts (N : Nat → Nat → Int32) (nt : Nat) : Nat → Int64 → Int64
  | 0, d => d
  | j + 1, d => mDSt N nt j (mDSts N nt j d)
theorem mDSts_0 (N : Nat → Nat → Int32) (nt : Nat) (d : Int64) : mDSts N nt 0 d = d := by rw [mDSts]
theorem mDSts_s (N : Nat → Nat → Int32) (nt j : Nat) (d : Int64) : mDSts N nt (j + 1) d = mDSt N nt j (mDSts N nt j d) := by rw [mDSts]
def mDSg (N : Nat → Nat → Int32) (i : Nat) : Nat → Int64 → Int64
  | 0, d => d
  | j + 1, d => pFold (fun k => mSeenNow (N (60 + 8 * i + j)) (nI k)) 8 (mDSg N i j d)
theorem mDSg_0 (N : Nat → Nat → Int32) (i : Nat) (d : Int64) : mDSg N i 0 d = d := by rw [mDSg]
theorem mDSg_s (N : Nat → Nat → Int32) (i j : Nat) (d : Int64) : mDSg N i (j + 1) d = pFold (fun k => mSeenNow (N (60 + 8 * i + j)) (nI k)) 8 (mDSg N i j d) := by rw [mDSg]
def mDRc (N : Nat → Nat → Int32) (ns i : Nat) (d : Int64) : Int64 :=
  mDSg N i ns (pFold (fun k => mTold N ns i (nI k).toNatClampNeg) 14 d) * 31 + (mSet (N (40 + i)) N 6 ns).toInt64
def mDRcs (N : Nat → Nat → Int32) (ns : Nat) : Nat → Int64 → Int64
  | 0, d => d
  | i + 1, d => mDRc N ns i (mDRcs N ns i d)
theorem mDRcs_0 (N : Nat → Nat → Int32) (ns : Nat) (d : Int64) : mDRcs N ns 0 d = d := by rw [mDRcs]
theorem mDRcs_s (N : Nat → Nat → Int32) (ns i : Nat) (d : Int64) : mDRcs N ns (i + 1) d = mDRc N ns i (mDRcs N ns i d) := by rw [mDRcs]
def mDigA (N : Nat → Nat → Int32) (ns nr : Nat) : Int64 := pFold (fun k => mMany N ns nr (nI k).toNatClampNeg) 9 58189
def mDig0 (N : Nat → Nat → Int32) (ns nt nr : Nat) : Int64 := mDRcs N ns nr (mDSts N nt ns (mDigA N ns nr))
def mDig (N : Nat → Nat → Int32) (ns nt nr : Nat) (co : Int64) : Int64 := if nI nr ≤ 0 then mDig0 N ns nt nr else mDig0 N ns nt nr * 31 + (mAlNow N ns 0 co).toInt64
/-- the same but for what the search writes -/
def mSame (N N2 : Nat → Nat → Int32) : Prop := (∀ c, c < 15 → N2 0 c = N 0 c) ∧ ∀ k, 0 < k → (k < 6 ∨ 10 ≤ k) → N2 k = N k
theorem mSame.rf {N : Nat → Nat → Int32} : mSame N N := ⟨fun _ _ => rfl, fun _ _ _ => rfl⟩
theorem mB_hi {N : Nat → Nat → Int32} {B : Bst} {c : Nat} (h : c < 15) : mB N B 0 c = N 0 c := by
  unfold mB
  rw [mset_s]
  unfold upd
  rw [if_neg (by omega), if_neg (by omega), if_neg (by omega)]
theorem mSame_B (N : Nat → Nat → Int32) (ns i : Nat) (ar lo : Int32) (B : Bst) (j : Nat) : mSame N (mB (mLay N ns i ar lo j).1 B) :=
  ⟨fun c hc => by rw [mB_hi hc, mLay_lo _ _ _ _ _ (Or.inl (by decide))], fun k h0 hk => by
    show mset _ 0 _ k = N k
    rw [mset_n (by omega), mLay_lo _ _ _ _ _ hk]⟩
theorem ge_t {k n : Nat} (hk : k ≤ n) (hn : n < 2 ^ 31) {v : Int32} (hv : v = nI n) (h : v ≤ nI k) : k = n := by
  subst hv
  exact Nat.le_antisymm hk ((nI_leI hn (Nat.lt_of_le_of_lt hk hn)).mp h)
theorem ge_f {k n : Nat} (hk : k ≤ n) (hn : n < 2 ^ 31) {v : Int32} (hv : v = nI n) (h : ¬ v ≤ nI k) : k < n := by
  subst hv
  rcases Nat.lt_or_ge k n with q | q
  · exact q
  · exact absurd (nI_le q (Nat.lt_of_le_of_lt hk hn)) h
