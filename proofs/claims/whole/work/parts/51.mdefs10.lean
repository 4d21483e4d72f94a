-- the alarm that would be
theorem mB_self (N : Nat → Nat → Int32) (c : Int64) : mB N (N 0 15, N 0 16, N 0 17, c) = N := by
  unfold mB
  dsimp only
  rw [upd_same (f := N 0) rfl, upd_same (f := N 0) rfl, upd_same (f := N 0) rfl]
  funext k
  by_cases e : k = 0
  · rw [e, mset_s]
  · rw [mset_n e]
def mB0 (N : Nat → Nat → Int32) (c : Int64) : Bst := (N 0 15, N 0 16, N 0 17, c)
def mLQ (N : Nat → Nat → Int32) (ns i : Nat) (lo : Int32) : (Nat → Nat → Int32) × Nat := mLay N ns i 0 lo ns
def mAlNow (N : Nat → Nat → Int32) (ns i : Nat) (co : Int64) : Int32 :=
  if 4 ≤ nI (mLQ N ns i (-1)).2 then mAlarm ((mLQ N ns i (-1)).1 (40 + i)) (mFind (mLQ N ns i (-1)).1 ns (mB0 (mLQ N ns i (-1)).1 co)).2.2.2 (nI (mLQ N ns i (-1)).2) (mLevel (mLQ N ns i (-1)).1 ns (mFind (mLQ N ns i (-1)).1 ns (mB0 (mLQ N ns i (-1)).1 co)) (nI (mLQ N ns i (-1)).2)) else 1
theorem wC_le (N : Nat → Nat → Int32) : ∀ n, wC N n ≤ n
  | 0 => by rw [wC]; exact Nat.le_refl _
  | n + 1 => by
    have := wC_le N n
    rw [wC_s]
    split <;> omega
def mWoM (N : Nat → Nat → Int32) (ns i : Nat) (lo : Int32) (co : Int64) : Int32 :=
  if 3 ≤ nI (mLQ N ns i lo).2 then 100 * ((mFind (mLQ N ns i lo).1 ns (mB0 (mLQ N ns i lo).1 co)).1 + 12) + (mFind (mLQ N ns i lo).1 ns (mB0 (mLQ N ns i lo).1 co)).2.1 else -1
