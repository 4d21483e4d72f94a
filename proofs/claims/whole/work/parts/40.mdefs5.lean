-- the model's two tables made anew
theorem mC_some {cy : Nat → ClassId} {md : Nat → Nat} {N : Nat → Nat → Int32} {c s : Int64} {k : Nat} (h : ML k) : ∃ e, mC cy md N c s k = some e := by
  by_cases h1 : MKI k
  · exact ⟨_, mC_i h1⟩
  unfold mC
  by_cases h0 : k = 0
  · rw [if_pos h0]; exact ⟨_, rfl⟩
  rw [if_neg h0, if_neg (fun q => h1 (mkb_iff.mp q))]
  by_cases e1 : k = 1
  · rw [if_pos e1]; exact ⟨_, rfl⟩
  rw [if_neg e1]
  by_cases e2 : k = 2
  · rw [if_pos e2]; exact ⟨_, rfl⟩
  rw [if_neg e2]
  by_cases e3 : k = 3
  · rw [if_pos e3]; exact ⟨_, rfl⟩
  rw [if_neg e3]
  by_cases e4 : k = 4
  · rw [if_pos e4]; exact ⟨_, rfl⟩
  rw [if_neg e4]
  by_cases e5 : k = 5
  · rw [if_pos e5]; exact ⟨_, rfl⟩
  rw [if_neg e5]
  unfold ML at h
  rw [if_pos (by rcases h with h | h | h <;> first | omega | exact absurd h h1)]
  exact ⟨_, rfl⟩
theorem MW.lt {D : va_G} {cy : Nat → ClassId} {md : Nat → Nat} {N : Nat → Nat → Int32} {c s : Int64} {H : Heap} (h : MW D cy md N c s H) {k : Nat} (hk : ML k) : md k < H.size := by
  obtain ⟨e, he⟩ := mC_some (cy := cy) (md := md) (N := N) (c := c) (s := s) hk
  exact (h k e he 0 _ rfl).lt
def mTold (N : Nat → Nat → Int32) (ns i : Nat) : Nat → Int32 :=
  upd (upd (upd (upd (upd (upd (upd (upd (upd (upd (upd (upd (upd (upd (fun _ => 0) 0 (N (40 + i) 0)) 1 (N (40 + i) 1)) 2 (pBits (mSet (N (40 + i)) N 0 ns))) 3 (N (40 + i) 10)) 4 (N (40 + i) 11)) 5 (N (40 + i) 12)) 6 (N (40 + i) 13)) 7 (N (40 + i) 14)) 8 (N (40 + i) 15)) 9 (N (40 + i) 16)) 10 (N (40 + i) 17)) 11 (N (40 + i) 18)) 12 (N (40 + i) 19)) 13 (if N (40 + i) 20 = 0 then 0 else pRange (N (40 + i) 0) (N (40 + i) 1) (N (40 + i) 12) (N (40 + i) 13))
def mSumA (N : Nat → Nat → Int32) : Nat → Int32
  | 0 => 0
  | j + 1 => mSumA N j + N (10 + j) 5
def mSumB (N : Nat → Nat → Int32) : Nat → Int32
  | 0 => 0
  | j + 1 => mSumB N j + (if bI (mHolds (N 0 1) (N (20 + j))) = 0 then 0 else 1)
def mSumC (N : Nat → Nat → Int32) : Nat → Int32
  | 0 => 0
  | j + 1 => mSumC N j + N (20 + j) 0
def mSumD (N : Nat → Nat → Int32) : Nat → Int32
  | 0 => 0
  | j + 1 => mSumD N j + N (40 + j) 18
theorem mSumA_0 (N : Nat → Nat → Int32) : mSumA N 0 = 0 := by rw [mSumA]
theorem mSumB_0 (N : Nat → Nat → Int32) : mSumB N 0 = 0 := by rw [mSumB]
theorem mSumC_0 (N : Nat → Nat → Int32) : mSumC N 0 = 0 := by rw [mSumC]
theorem mSumD_0 (N : Nat → Nat → Int32) : mSumD N 0 = 0 := by rw [mSumD]
theorem mSumA_s (N : Nat → Nat → Int32) (j : Nat) : mSumA N (j + 1) = mSumA N j + N (10 + j) 5 := by rw [mSumA]
theorem mSumB_s (N : Nat → Nat → Int32) (j : Nat) : mSumB N (j + 1) = mSumB N j + (if bI (mHolds (N 0 1) (N (20 + j))) = 0 then 0 else 1) := by rw [mSumB]
theorem mSumC_s (N : Nat → Nat → Int32) (j : Nat) : mSumC N (j + 1) = mSumC N j + N (20 + j) 0 := by rw [mSumC]
theorem mSumD_s (N : Nat → Nat → Int32) (j : Nat) : mSumD N (j + 1) = mSumD N j + N (40 + j) 18 := by rw [mSumD]
def mMany (N : Nat → Nat → Int32) (ns nr : Nat) : Nat → Int32 :=
  upd (upd (upd (upd (upd (upd (upd (upd (upd (fun _ => 0) 0 (N 0 1)) 1 (N 0 8)) 2 (N 0 9)) 3 (N 0 10)) 4 (mSumA N ns)) 5 (mSumB N ns)) 6 (mSumC N ns)) 7 (N 0 2)) 8 (mSumD N nr)
